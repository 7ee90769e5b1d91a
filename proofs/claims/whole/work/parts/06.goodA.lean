set_option maxRecDepth 20000 in
theorem ggX0_look_X4_sample : GoodIn wsX0_look wsX4_sample := goodIn_r _ [13, 14, 15, 16, 17, 18, 19, 20, 21, 22, 29, 30, 31, 32, 33, 34, 35, 36, 37] rfl (by decide +kernel)
set_option maxRecDepth 20000 in
theorem gX0_look_X4_sample : GoodIn wsX0_look (wsV RX0 21 RX4 yX4_sample wsX4_sample) := goodIn_app (goodIn_of _ (by decide +kernel)) ggX0_look_X4_sample
set_option maxRecDepth 20000 in
theorem ggX0_expected_X4_inRange : GoodIn wsX0_expected wsX4_inRange := goodIn_r _ [11, 12, 13, 14, 15, 22, 23, 24, 25, 26, 27, 28, 29] rfl (by decide +kernel)
set_option maxRecDepth 20000 in
theorem gX0_expected_X4_inRange : GoodIn wsX0_expected (wsV RX0 43 RX4 yX4_inRange wsX4_inRange) := goodIn_app (goodIn_of _ (by decide +kernel)) ggX0_expected_X4_inRange
set_option maxRecDepth 20000 in
theorem ggX1_addAll_X1_get : GoodIn wsX1_addAll wsX1_get := goodIn_r _ [6, 1, 7, 12, 13] rfl (by decide +kernel)
set_option maxRecDepth 20000 in
theorem gX1_addAll_X1_get : GoodIn wsX1_addAll (wsV RX1 23 RX1 yX1_get wsX1_get) := goodIn_app (goodIn_of _ (by decide +kernel)) ggX1_addAll_X1_get
set_option maxRecDepth 20000 in
theorem ggX1_addAll_X1_add : GoodIn wsX1_addAll wsX1_add := goodIn_r _ [11, 1, 7, 12, 13] rfl (by decide +kernel)
set_option maxRecDepth 20000 in
theorem gX1_addAll_X1_add : GoodIn wsX1_addAll (wsV RX1 27 RX1 yX1_add wsX1_add) := goodIn_app (goodIn_of _ (by decide +kernel)) ggX1_addAll_X1_add
set_option maxRecDepth 20000 in
theorem ggX2_init_X6_init : GoodIn wsX2_init wsX6_init := goodIn_r _ [13, 14, 2, 3, 15, 16, 17, 18, 19, 20, 25] rfl (by decide +kernel)
set_option maxRecDepth 20000 in
theorem gX2_init_X6_init : GoodIn wsX2_init (wsX6_init) := ggX2_init_X6_init
set_option maxRecDepth 20000 in
theorem ggX2_begin_X6_fill : GoodIn wsX2_begin wsX6_fill := goodIn_r _ [9, 10, 11, 12, 13, 14, 19] rfl (by decide +kernel)
set_option maxRecDepth 20000 in
theorem gX2_begin_X6_fill : GoodIn wsX2_begin (wsV RX2 31 RX6 yX6_fill wsX6_fill) := goodIn_app (goodIn_of _ (by decide +kernel)) ggX2_begin_X6_fill
set_option maxRecDepth 20000 in
theorem ggX2_mix_X6_get : GoodIn wsX2_mix wsX6_get := goodIn_r _ [9, 10, 18] rfl (by decide +kernel)
set_option maxRecDepth 20000 in
theorem gX2_mix_X6_get : GoodIn wsX2_mix (wsV RX2 34 RX6 yX6_get wsX6_get) := goodIn_app (goodIn_of _ (by decide +kernel)) ggX2_mix_X6_get
set_option maxRecDepth 20000 in
theorem ggX2_mix_X10_brought : GoodIn wsX2_mix wsX10_brought := goodIn_r _ [13] rfl (by decide +kernel)
set_option maxRecDepth 20000 in
theorem gX2_mix_X10_brought_n39 : GoodIn wsX2_mix (wsX10_brought) := ggX2_mix_X10_brought
set_option maxRecDepth 20000 in
theorem ggX2_learn_X6_get : GoodIn wsX2_learn wsX6_get := goodIn_r _ [9, 10, 22] rfl (by decide +kernel)
set_option maxRecDepth 20000 in
theorem gX2_learn_X6_get : GoodIn wsX2_learn (wsV RX2 34 RX6 yX6_get wsX6_get) := goodIn_app (goodIn_of _ (by decide +kernel)) ggX2_learn_X6_get
set_option maxRecDepth 20000 in
theorem ggX2_learn_X10_brought : GoodIn wsX2_learn wsX10_brought := goodIn_r _ [13] rfl (by decide +kernel)
set_option maxRecDepth 20000 in
theorem gX2_learn_X10_brought_n39 : GoodIn wsX2_learn (wsX10_brought) := ggX2_learn_X10_brought
set_option maxRecDepth 20000 in
theorem ggX2_learn_X6_set : GoodIn wsX2_learn wsX6_set := goodIn_r _ [17, 10, 22] rfl (by decide +kernel)
set_option maxRecDepth 20000 in
theorem gX2_learn_X6_set : GoodIn wsX2_learn (wsV RX2 43 RX6 yX6_set wsX6_set) := goodIn_app (goodIn_of _ (by decide +kernel)) ggX2_learn_X6_set
set_option maxRecDepth 20000 in
theorem ggX3_narrow_X5_choose : GoodIn wsX3_narrow wsX5_choose := goodIn_r _ [11, 12, 41, 42, 43, 44, 45, 46] rfl (by decide +kernel)
set_option maxRecDepth 20000 in
theorem gX3_narrow_X5_choose_u20X5 : GoodIn wsX3_narrow (va_wsU RX3 20 RX5 "MixedPredict$Interval" ⟨"MixedPredict$Interval", "choose", "(JI)I"⟩ yX5_choose wsX5_choose) := goodIn_app (goodIn_of _ (by decide +kernel)) ggX3_narrow_X5_choose
set_option maxRecDepth 20000 in
theorem ggX3_narrow_X9_choose : GoodIn wsX3_narrow wsX9_choose := goodIn_r _ [16] rfl (by decide +kernel)
set_option maxRecDepth 20000 in
theorem gX3_narrow_X9_choose_u20X9 : GoodIn wsX3_narrow (va_wsU RX3 20 RX9 "MixedPredict$Interval" ⟨"MixedPredict$Interval", "choose", "(JI)I"⟩ yX9_choose wsX9_choose) := goodIn_app (goodIn_of _ (by decide +kernel)) ggX3_narrow_X9_choose
set_option maxRecDepth 20000 in
theorem ggX3_narrow_X5_leave : GoodIn wsX3_narrow wsX5_leave := goodIn_r _ [21, 12, 22, 23, 24, 25, 26, 27, 28, 29, 30, 31, 32, 41, 42, 43, 44, 45, 46, 50, 51] rfl (by decide +kernel)
set_option maxRecDepth 20000 in
theorem gX3_narrow_X5_leave_u24X5 : GoodIn wsX3_narrow (va_wsU RX3 24 RX5 "MixedPredict$Interval" ⟨"MixedPredict$Interval", "leave", "(I)V"⟩ yX5_leave wsX5_leave) := goodIn_app (goodIn_of _ (by decide +kernel)) ggX3_narrow_X5_leave
set_option maxRecDepth 20000 in
theorem ggX3_narrow_X9_leave : GoodIn wsX3_narrow wsX9_leave := goodIn_r _ [35, 36, 37, 38, 39, 29, 40, 31, 32, 47, 48, 49, 50, 51] rfl (by decide +kernel)
set_option maxRecDepth 20000 in
theorem gX3_narrow_X9_leave_u24X9 : GoodIn wsX3_narrow (va_wsU RX3 24 RX9 "MixedPredict$Interval" ⟨"MixedPredict$Interval", "leave", "(I)V"⟩ yX9_leave wsX9_leave) := goodIn_app (goodIn_of _ (by decide +kernel)) ggX3_narrow_X9_leave
set_option maxRecDepth 20000 in
theorem ggX4_init_X6_init : GoodIn wsX4_init wsX6_init := goodIn_r _ [21, 22, 2, 3, 23, 11, 12, 13, 24, 25, 34] rfl (by decide +kernel)
set_option maxRecDepth 20000 in
theorem gX4_init_X6_init : GoodIn wsX4_init (wsX6_init) := ggX4_init_X6_init
set_option maxRecDepth 20000 in
theorem ggX4_has_X4_hasChannel : GoodIn wsX4_has wsX4_hasChannel := goodIn_r _ [7, 8, 9, 10, 11, 12, 13, 14, 15, 16] rfl (by decide +kernel)
set_option maxRecDepth 20000 in
theorem gX4_has_X4_hasChannel : GoodIn wsX4_has (wsV RX4 48 RX4 yX4_hasChannel wsX4_hasChannel) := goodIn_app (goodIn_of _ (by decide +kernel)) ggX4_has_X4_hasChannel
set_option maxRecDepth 20000 in
theorem ggX4_sample_X6_get : GoodIn wsX4_sample wsX6_get := goodIn_r _ [8, 9, 18] rfl (by decide +kernel)
set_option maxRecDepth 20000 in
theorem gX4_sample_X6_get : GoodIn wsX4_sample (wsV RX4 52 RX6 yX6_get wsX6_get) := goodIn_app (goodIn_of _ (by decide +kernel)) ggX4_sample_X6_get
set_option maxRecDepth 20000 in
theorem ggX4_change_X4_sample : GoodIn wsX4_change wsX4_sample := goodIn_r _ [8, 1, 2, 3, 9, 10, 11, 12, 13, 14, 19, 20, 21, 22, 23, 24, 25, 26, 27] rfl (by decide +kernel)
set_option maxRecDepth 20000 in
theorem gX4_change_X4_sample : GoodIn wsX4_change (wsV RX4 56 RX4 yX4_sample wsX4_sample) := goodIn_app (goodIn_of _ (by decide +kernel)) ggX4_change_X4_sample
set_option maxRecDepth 20000 in
theorem ggX4_change_X6_set : GoodIn wsX4_change wsX6_set := goodIn_r _ [18, 14, 27] rfl (by decide +kernel)
set_option maxRecDepth 20000 in
theorem gX4_change_X6_set : GoodIn wsX4_change (wsV RX4 60 RX6 yX6_set wsX6_set) := goodIn_app (goodIn_of _ (by decide +kernel)) ggX4_change_X6_set
set_option maxRecDepth 20000 in
theorem ggX4_blacken_X6_fill : GoodIn wsX4_blacken wsX6_fill := goodIn_r _ [6, 7, 8, 9, 10, 11, 20] rfl (by decide +kernel)
set_option maxRecDepth 20000 in
theorem gX4_blacken_X6_fill : GoodIn wsX4_blacken (wsV RX4 64 RX6 yX6_fill wsX6_fill) := goodIn_app (goodIn_of _ (by decide +kernel)) ggX4_blacken_X6_fill
set_option maxRecDepth 20000 in
theorem ggX4_inRange_X10_brought : GoodIn wsX4_inRange wsX10_brought := goodIn_r _ [4] rfl (by decide +kernel)
set_option maxRecDepth 20000 in
theorem gX4_inRange_X10_brought_n67 : GoodIn wsX4_inRange (wsX10_brought) := ggX4_inRange_X10_brought
set_option maxRecDepth 20000 in
theorem ggX4_right_X4_left : GoodIn wsX4_right wsX4_left := goodIn_r _ [10, 11, 12, 13, 14, 15, 16, 17, 18, 19] rfl (by decide +kernel)
set_option maxRecDepth 20000 in
theorem gX4_right_X4_left : GoodIn wsX4_right (wsV RX4 70 RX4 yX4_left wsX4_left) := goodIn_app (goodIn_of _ (by decide +kernel)) ggX4_right_X4_left
set_option maxRecDepth 20000 in
theorem ggX4_bottom_X4_top : GoodIn wsX4_bottom wsX4_top := goodIn_r _ [10, 11, 12, 13, 14, 15, 16, 17, 18, 19] rfl (by decide +kernel)
set_option maxRecDepth 20000 in
theorem gX4_bottom_X4_top : GoodIn wsX4_bottom (wsV RX4 76 RX4 yX4_top wsX4_top) := goodIn_app (goodIn_of _ (by decide +kernel)) ggX4_bottom_X4_top
set_option maxRecDepth 20000 in
theorem ggX4_countIn_X4_right : GoodIn wsX4_countIn wsX4_right := goodIn_r _ [6, 7, 8, 9, 10, 11, 12, 13, 14, 5, 15, 16, 26, 27, 28, 29, 30, 31, 32, 33] rfl (by decide +kernel)
set_option maxRecDepth 20000 in
theorem gX4_countIn_X4_right : GoodIn wsX4_countIn (wsV RX4 79 RX4 yX4_right wsX4_right) := goodIn_app (goodIn_of _ (by decide +kernel)) ggX4_countIn_X4_right
set_option maxRecDepth 20000 in
theorem ggX4_countIn_X4_left : GoodIn wsX4_countIn wsX4_left := goodIn_r _ [15, 16, 26, 27, 28, 29, 30, 31, 32, 33] rfl (by decide +kernel)
set_option maxRecDepth 20000 in
theorem gX4_countIn_X4_left : GoodIn wsX4_countIn (wsV RX4 70 RX4 yX4_left wsX4_left) := goodIn_app (goodIn_of _ (by decide +kernel)) ggX4_countIn_X4_left
set_option maxRecDepth 20000 in
theorem ggX4_countIn_X4_bottom : GoodIn wsX4_countIn wsX4_bottom := goodIn_r _ [20, 21, 8, 9, 10, 11, 22, 23, 24, 5, 25, 16, 26, 27, 28, 29, 30, 31, 32, 33] rfl (by decide +kernel)
set_option maxRecDepth 20000 in
theorem gX4_countIn_X4_bottom : GoodIn wsX4_countIn (wsV RX4 82 RX4 yX4_bottom wsX4_bottom) := goodIn_app (goodIn_of _ (by decide +kernel)) ggX4_countIn_X4_bottom
set_option maxRecDepth 20000 in
theorem ggX4_countIn_X4_top : GoodIn wsX4_countIn wsX4_top := goodIn_r _ [25, 16, 26, 27, 28, 29, 30, 31, 32, 33] rfl (by decide +kernel)
set_option maxRecDepth 20000 in
theorem gX4_countIn_X4_top : GoodIn wsX4_countIn (wsV RX4 76 RX4 yX4_top wsX4_top) := goodIn_app (goodIn_of _ (by decide +kernel)) ggX4_countIn_X4_top
set_option maxRecDepth 20000 in
theorem ggX5_init_X3_init : GoodIn wsX5_init wsX3_init := goodIn_r _ [4, 5, 6, 7] rfl (by decide +kernel)
set_option maxRecDepth 20000 in
theorem gX5_init_X3_init_n1 : GoodIn wsX5_init (wsX3_init) := ggX5_init_X3_init
set_option maxRecDepth 20000 in
theorem ggX5_begin_X3_open : GoodIn wsX5_begin wsX3_open := goodIn_r _ [9, 10, 11, 12, 27, 28, 29, 30, 31, 32, 33, 34, 35] rfl (by decide +kernel)
set_option maxRecDepth 20000 in
theorem gX5_begin_X3_open_u13X5 : GoodIn wsX5_begin (va_wsU RX5 13 RX5 "MixedPredict$Interval" ⟨"MixedPredict$Reader", "open", "()V"⟩ yX3_open wsX3_open) := goodIn_app (goodIn_of _ (by decide +kernel)) ggX5_begin_X3_open
set_option maxRecDepth 20000 in
theorem ggX5_begin_X5_leave : GoodIn wsX5_begin wsX5_leave := goodIn_r _ [17, 3, 18, 1, 2, 19, 20, 21, 22, 23, 24, 25, 26, 27, 28, 29, 30, 31, 32, 36, 37] rfl (by decide +kernel)
set_option maxRecDepth 20000 in
theorem gX5_begin_X5_leave : GoodIn wsX5_begin (wsV RX5 27 RX5 yX5_leave wsX5_leave) := goodIn_app (goodIn_of _ (by decide +kernel)) ggX5_begin_X5_leave
set_option maxRecDepth 20000 in
theorem ggX5_leave_X1_get : GoodIn wsX5_leave wsX1_get := goodIn_r _ [10, 11, 12, 19, 20] rfl (by decide +kernel)
set_option maxRecDepth 20000 in
theorem gX5_leave_X1_get : GoodIn wsX5_leave (wsV RX5 33 RX1 yX1_get wsX1_get) := goodIn_app (goodIn_of _ (by decide +kernel)) ggX5_leave_X1_get
set_option maxRecDepth 20000 in
theorem ggX6_fill_J7_fill_53178 : GoodIn wsX6_fill wsJ7_fill_53178 := goodIn_r _ [5] rfl (by decide +kernel)
set_option maxRecDepth 20000 in
theorem gX6_fill_J7_fill_53178 : GoodIn wsX6_fill (va_wsS RX6 19 yJ7_fill_53178 wsJ7_fill_53178) := goodIn_app (goodIn_of _ (by decide +kernel)) ggX6_fill_J7_fill_53178
set_option maxRecDepth 20000 in
theorem ggX7_init_X8_init : GoodIn wsX7_init wsX8_init := goodIn_r _ [24, 25, 2, 3, 26, 20, 21, 27, 28, 29, 30, 31, 32, 33, 34, 35, 36, 37, 38, 104, 79, 80] rfl (by decide +kernel)
set_option maxRecDepth 20000 in
theorem gX7_init_X8_init_n11 : GoodIn wsX7_init (wsX8_init) := ggX7_init_X8_init
set_option maxRecDepth 20000 in
theorem ggX7_init_X0_init : GoodIn wsX7_init wsX0_init := goodIn_r _ [41, 42, 2, 3, 43, 86, 87, 88, 89, 90, 91] rfl (by decide +kernel)
set_option maxRecDepth 20000 in
theorem gX7_init_X0_init : GoodIn wsX7_init (wsX0_init) := ggX7_init_X0_init
set_option maxRecDepth 20000 in
theorem ggX7_init_X2_init : GoodIn wsX7_init wsX2_init := goodIn_r _ [46, 47, 2, 3, 48, 49, 20, 21, 50, 51, 52, 53, 30, 31, 32, 33, 34, 35, 36, 37, 38, 92, 93, 94, 95, 104] rfl (by decide +kernel)
set_option maxRecDepth 20000 in
theorem gX7_init_X2_init : GoodIn wsX7_init (wsX2_init) := ggX7_init_X2_init
set_option maxRecDepth 20000 in
theorem ggX7_init_X6_init : GoodIn wsX7_init wsX6_init := goodIn_r _ [31, 32, 2, 3, 33, 34, 35, 36, 37, 38, 104] rfl (by decide +kernel)
set_option maxRecDepth 20000 in
theorem gX7_init_X6_init : GoodIn wsX7_init (wsX6_init) := ggX7_init_X6_init
set_option maxRecDepth 20000 in
theorem ggX7_init_X7_begin : GoodIn wsX7_init wsX7_begin := goodIn_r _ [59, 7, 18, 22, 60, 61, 62, 6, 63, 27, 64, 65, 66, 21, 67, 38, 68, 69, 70, 71, 72, 73, 74, 15, 75, 50, 76, 51, 52, 77, 78, 81, 82, 83, 84, 85, 79, 80, 104, 92, 93, 94, 95] rfl (by decide +kernel)
set_option maxRecDepth 20000 in
theorem gX7_init_X7_begin : GoodIn wsX7_init (wsV RX7 58 RX7 yX7_begin wsX7_begin) := goodIn_app (goodIn_of _ (by decide +kernel)) ggX7_init_X7_begin
set_option maxRecDepth 20000 in
theorem ggX7_begin_X8_begin : GoodIn wsX7_begin wsX8_begin := goodIn_r _ [8, 9, 10, 11, 12, 13, 14, 15, 16, 17, 18, 19, 36, 37, 38] rfl (by decide +kernel)
set_option maxRecDepth 20000 in
theorem gX7_begin_X8_begin : GoodIn wsX7_begin (wsV RX7 61 RX8 yX8_begin wsX8_begin) := goodIn_app (goodIn_of _ (by decide +kernel)) ggX7_begin_X8_begin
set_option maxRecDepth 20000 in
theorem ggX7_begin_X2_begin : GoodIn wsX7_begin wsX2_begin := goodIn_r _ [24, 25, 26, 27, 28, 29, 11, 12, 13, 14, 15, 16, 17, 18, 19, 39, 40, 41, 42, 38] rfl (by decide +kernel)
set_option maxRecDepth 20000 in
theorem gX7_begin_X2_begin : GoodIn wsX7_begin (wsV RX7 62 RX2 yX2_begin wsX2_begin) := goodIn_app (goodIn_of _ (by decide +kernel)) ggX7_begin_X2_begin
set_option maxRecDepth 20000 in
theorem ggX7_begin_X6_fill : GoodIn wsX7_begin wsX6_fill := goodIn_r _ [14, 15, 16, 17, 18, 19, 38] rfl (by decide +kernel)
set_option maxRecDepth 20000 in
theorem gX7_begin_X6_fill : GoodIn wsX7_begin (wsV RX7 63 RX6 yX6_fill wsX6_fill) := goodIn_app (goodIn_of _ (by decide +kernel)) ggX7_begin_X6_fill
set_option maxRecDepth 20000 in
theorem ggX7_tell_X7_begin : GoodIn wsX7_tell wsX7_begin := goodIn_r _ [9, 10, 11, 12, 13, 14, 15, 16, 17, 18, 19, 20, 21, 22, 23, 24, 25, 26, 27, 28, 29, 30, 31, 32, 33, 34, 35, 36, 37, 38, 39, 196, 197, 198, 199, 200, 209, 210, 211, 212, 213, 214, 215] rfl (by decide +kernel)
set_option maxRecDepth 20000 in
theorem gX7_tell_X7_begin : GoodIn wsX7_tell (wsV RX7 58 RX7 yX7_begin wsX7_begin) := goodIn_app (goodIn_of _ (by decide +kernel)) ggX7_tell_X7_begin
set_option maxRecDepth 20000 in
theorem ggX7_tell_X7_tellSample : GoodIn wsX7_tell wsX7_tellSample := goodIn_r _ [43, 44, 10, 1, 45, 12, 46, 47, 48, 49, 50, 51, 52, 53, 54, 55, 56, 57, 58, 59, 60, 61, 62, 63, 64, 65, 66, 67, 68, 69, 70, 71, 72, 73, 22, 74, 24, 75, 76, 77, 16, 78, 79, 18, 80, 81, 82, 83, 84, 85, 86, 87, 88, 89, 90, 91, 92, 93, 94, 95, 96, 97, 98, 99, 100, 8, 101, 102, 103, 104, 105, 106, 107, 11, 108, 109, 110, 111, 112, 113, 114, 115, 116, 117, 118, 119, 32, 120, 121, 122, 123, 124, 125, 37, 34, 36, 126, 127, 128, 129, 130, 131, 132, 133, 134, 135, 136, 137, 138, 139, 140, 141, 142, 143, 144, 145, 146, 147, 148, 149, 150, 151, 152, 153, 154, 155, 156, 157, 158, 159, 160, 161, 162, 163, 164, 165, 166, 167, 168, 169, 170, 171, 172, 173, 174, 175, 176, 177, 178, 179, 180, 181, 182, 183, 184, 185, 186, 187, 188, 189, 190, 191, 192, 193, 194, 195, 196, 197, 198, 199, 200, 201, 202, 203, 204, 205, 206, 207, 208, 216, 217, 218, 219, 220, 221, 211, 209, 210, 212, 213, 214, 215, 222, 223, 224, 225, 226, 227, 228, 229, 230, 231, 232] rfl (by decide +kernel)
set_option maxRecDepth 20000 in
theorem gX7_tell_X7_tellSample : GoodIn wsX7_tell (wsV RX7 72 RX7 yX7_tellSample wsX7_tellSample) := goodIn_app (goodIn_of _ (by decide +kernel)) ggX7_tell_X7_tellSample
set_option maxRecDepth 20000 in
theorem ggX7_tellSample_X0_look : GoodIn wsX7_tellSample wsX0_look := goodIn_r _ [14, 15, 16, 17, 18, 19, 20, 21, 22, 23, 24, 25, 26, 27, 28, 29, 30, 31, 32, 33, 34, 35, 36, 179, 180, 181, 182, 183, 184, 171, 172, 173, 174, 175, 176, 177, 178, 185] rfl (by decide +kernel)
set_option maxRecDepth 20000 in
theorem gX7_tellSample_X0_look : GoodIn wsX7_tellSample (wsV RX7 76 RX0 yX0_look wsX0_look) := goodIn_app (goodIn_of _ (by decide +kernel)) ggX7_tellSample_X0_look
set_option maxRecDepth 20000 in
theorem ggX7_tellSample_X8_mix : GoodIn wsX7_tellSample wsX8_mix := goodIn_r _ [41, 42, 43, 44, 45, 46, 13, 47, 18, 19, 20, 21, 15, 22, 48, 49, 50, 26, 51, 52, 53, 54, 55, 56, 57, 58, 34, 59, 36, 60, 32, 33, 35, 186, 187, 179, 180, 181, 182, 183, 184, 171, 172, 173, 174, 175, 176, 177, 178, 185] rfl (by decide +kernel)
set_option maxRecDepth 20000 in
theorem gX7_tellSample_X8_mix : GoodIn wsX7_tellSample (wsV RX7 80 RX8 yX8_mix wsX8_mix) := goodIn_app (goodIn_of _ (by decide +kernel)) ggX7_tellSample_X8_mix
set_option maxRecDepth 20000 in
theorem ggX7_tellSample_X4_sample : GoodIn wsX7_tellSample wsX4_sample := goodIn_r _ [27, 28, 29, 30, 31, 32, 33, 34, 35, 36, 171, 172, 173, 174, 175, 176, 177, 178, 185] rfl (by decide +kernel)
set_option maxRecDepth 20000 in
theorem gX7_tellSample_X4_sample : GoodIn wsX7_tellSample (wsV RX7 84 RX4 yX4_sample wsX4_sample) := goodIn_app (goodIn_of _ (by decide +kernel)) ggX7_tellSample_X4_sample
set_option maxRecDepth 20000 in
theorem ggX7_tellSample_X7_fold : GoodIn wsX7_tellSample wsX7_fold := goodIn_r _ [66, 3, 67, 4, 166, 167, 168, 169, 170, 171, 172, 173, 174, 175, 176, 177, 178] rfl (by decide +kernel)
set_option maxRecDepth 20000 in
theorem gX7_tellSample_X7_fold : GoodIn wsX7_tellSample (wsV RX7 91 RX7 yX7_fold wsX7_fold) := goodIn_app (goodIn_of _ (by decide +kernel)) ggX7_tellSample_X7_fold
set_option maxRecDepth 20000 in
theorem ggX7_tellSample_X7_tellFolded : GoodIn wsX7_tellSample wsX7_tellFolded := goodIn_r _ [71, 1, 5, 3, 72, 73, 74, 75, 76, 13, 77, 18, 20, 78, 79, 8, 80, 19, 81, 7, 9, 82, 32, 33, 34, 35, 36, 83, 84, 85, 86, 87, 88, 89, 90, 91, 92, 93, 94, 95, 96, 97, 53, 54, 55, 98, 99, 100, 101, 102, 103, 104, 105, 106, 107, 108, 109, 110, 111, 112, 113, 114, 115, 116, 117, 118, 119, 120, 121, 122, 123, 124, 125, 126, 127, 128, 129, 130, 131, 132, 133, 134, 135, 136, 137, 138, 139, 140, 141, 142, 143, 144, 145, 146, 147, 148, 149, 150, 57, 58, 59, 166, 167, 168, 169, 170, 171, 172, 173, 174, 175, 176, 177, 178, 179, 180, 181, 182, 183, 184, 185, 188, 189, 190, 191, 192, 193, 194, 195, 196, 197, 198, 199, 200, 201, 202] rfl (by decide +kernel)
set_option maxRecDepth 20000 in
theorem gX7_tellSample_X7_tellFolded : GoodIn wsX7_tellSample (wsV RX7 95 RX7 yX7_tellFolded wsX7_tellFolded) := goodIn_app (goodIn_of _ (by decide +kernel)) ggX7_tellSample_X7_tellFolded
set_option maxRecDepth 20000 in
theorem ggX7_tellSample_X7_unfold : GoodIn wsX7_tellSample wsX7_unfold := goodIn_r _ [154, 3, 4, 166, 167, 168, 169, 170, 171, 172, 173, 174, 175, 176, 177, 178] rfl (by decide +kernel)
set_option maxRecDepth 20000 in
theorem gX7_tellSample_X7_unfold : GoodIn wsX7_tellSample (wsV RX7 99 RX7 yX7_unfold wsX7_unfold) := goodIn_app (goodIn_of _ (by decide +kernel)) ggX7_tellSample_X7_unfold
set_option maxRecDepth 20000 in
theorem ggX7_tellSample_X6_set : GoodIn wsX7_tellSample wsX6_set := goodIn_r _ [59, 36, 185] rfl (by decide +kernel)
set_option maxRecDepth 20000 in
theorem gX7_tellSample_X6_set : GoodIn wsX7_tellSample (wsV RX7 108 RX6 yX6_set wsX6_set) := goodIn_app (goodIn_of _ (by decide +kernel)) ggX7_tellSample_X6_set
set_option maxRecDepth 20000 in
theorem ggX7_tellSample_X8_learn : GoodIn wsX7_tellSample wsX8_learn := goodIn_r _ [159, 42, 43, 60, 32, 33, 34, 35, 36, 53, 54, 55, 56, 57, 58, 59, 186, 187, 185] rfl (by decide +kernel)
set_option maxRecDepth 20000 in
theorem gX7_tellSample_X8_learn : GoodIn wsX7_tellSample (wsV RX7 111 RX8 yX8_learn wsX8_learn) := goodIn_app (goodIn_of _ (by decide +kernel)) ggX7_tellSample_X8_learn
set_option maxRecDepth 20000 in
theorem ggX7_tellSample_X4_change : GoodIn wsX7_tellSample wsX4_change := goodIn_r _ [163, 28, 29, 30, 164, 24, 25, 26, 27, 31, 32, 33, 34, 35, 36, 165, 57, 58, 59, 171, 172, 173, 174, 175, 176, 177, 178, 185] rfl (by decide +kernel)
set_option maxRecDepth 20000 in
theorem gX7_tellSample_X4_change : GoodIn wsX7_tellSample (wsV RX7 114 RX4 yX4_change wsX4_change) := goodIn_app (goodIn_of _ (by decide +kernel)) ggX7_tellSample_X4_change
set_option maxRecDepth 20000 in
theorem ggX7_tellFolded_X0_texture : GoodIn wsX7_tellFolded wsX0_texture := goodIn_r _ [10, 11, 12, 13, 14, 15, 16, 17, 18, 19, 20, 114, 115, 116, 117, 118, 119] rfl (by decide +kernel)
set_option maxRecDepth 20000 in
theorem gX7_tellFolded_X0_texture : GoodIn wsX7_tellFolded (wsV RX7 118 RX0 yX0_texture wsX0_texture) := goodIn_app (goodIn_of _ (by decide +kernel)) ggX7_tellFolded_X0_texture
set_option maxRecDepth 20000 in
theorem ggX7_tellFolded_X6_get : GoodIn wsX7_tellFolded wsX6_get := goodIn_r _ [25, 26, 120] rfl (by decide +kernel)
set_option maxRecDepth 20000 in
theorem gX7_tellFolded_X6_get : GoodIn wsX7_tellFolded (wsV RX7 122 RX6 yX6_get wsX6_get) := goodIn_app (goodIn_of _ (by decide +kernel)) ggX7_tellFolded_X6_get
set_option maxRecDepth 20000 in
theorem ggX7_tellFolded_X2_place : GoodIn wsX7_tellFolded wsX2_place := goodIn_r _ [31, 32, 121, 122, 123, 124] rfl (by decide +kernel)
set_option maxRecDepth 20000 in
theorem gX7_tellFolded_X2_place : GoodIn wsX7_tellFolded (wsV RX7 125 RX2 yX2_place wsX2_place) := goodIn_app (goodIn_of _ (by decide +kernel)) ggX7_tellFolded_X2_place
set_option maxRecDepth 20000 in
theorem ggX7_tellFolded_X2_mix : GoodIn wsX7_tellFolded wsX2_mix := goodIn_r _ [36, 37, 38, 39, 40, 41, 22, 23, 24, 25, 26, 42, 43, 44, 121, 122, 123, 124, 120] rfl (by decide +kernel)
set_option maxRecDepth 20000 in
theorem gX7_tellFolded_X2_mix : GoodIn wsX7_tellFolded (wsV RX7 128 RX2 yX2_mix wsX2_mix) := goodIn_app (goodIn_of _ (by decide +kernel)) ggX7_tellFolded_X2_mix
set_option maxRecDepth 20000 in
theorem ggX7_tellFolded_X3_narrow : GoodIn wsX7_tellFolded wsX3_narrow := goodIn_r _ [50, 51, 52, 53, 54, 55, 56, 57, 58, 59, 60, 61, 62, 63, 64, 65, 66, 67, 68, 69, 70, 71, 72, 73, 74, 75, 76, 77, 78, 79, 80, 81, 82, 83, 84, 85, 86, 87, 88, 89, 90, 125, 126, 127, 128, 129, 130, 131, 132, 133, 134, 135] rfl (by decide +kernel)
set_option maxRecDepth 20000 in
theorem gX7_tellFolded_X3_narrow_u130X5 : GoodIn wsX7_tellFolded (va_wsU RX7 130 RX5 "MixedPredict$Interval" ⟨"MixedPredict$Interval", "narrow", "(II)I"⟩ yX3_narrow wsX3_narrow) := goodIn_app (goodIn_of _ (by decide +kernel)) ggX7_tellFolded_X3_narrow
set_option maxRecDepth 20000 in
theorem gX7_tellFolded_X3_narrow_u130X9 : GoodIn wsX7_tellFolded (va_wsU RX7 130 RX9 "MixedPredict$Interval" ⟨"MixedPredict$Interval", "narrow", "(II)I"⟩ yX3_narrow wsX3_narrow) := goodIn_app (goodIn_of _ (by decide +kernel)) ggX7_tellFolded_X3_narrow
set_option maxRecDepth 20000 in
theorem ggX7_tellFolded_X2_learn : GoodIn wsX7_tellFolded wsX2_learn := goodIn_r _ [95, 38, 39, 37, 96, 41, 22, 23, 24, 25, 26, 42, 43, 44, 97, 98, 99, 100, 121, 122, 123, 124, 120] rfl (by decide +kernel)
set_option maxRecDepth 20000 in
theorem gX7_tellFolded_X2_learn : GoodIn wsX7_tellFolded (wsV RX7 135 RX2 yX2_learn wsX2_learn) := goodIn_app (goodIn_of _ (by decide +kernel)) ggX7_tellFolded_X2_learn
set_option maxRecDepth 20000 in
theorem ggX8_init_X6_init : GoodIn wsX8_init wsX6_init := goodIn_r _ [11, 12, 2, 3, 13, 14, 15, 16, 17, 18, 19] rfl (by decide +kernel)
set_option maxRecDepth 20000 in
theorem gX8_init_X6_init : GoodIn wsX8_init (wsX6_init) := ggX8_init_X6_init
set_option maxRecDepth 20000 in
theorem ggX8_begin_X6_fill : GoodIn wsX8_begin wsX6_fill := goodIn_r _ [6, 7, 8, 9, 10, 11, 14] rfl (by decide +kernel)
set_option maxRecDepth 20000 in
theorem gX8_begin_X6_fill : GoodIn wsX8_begin (wsV RX8 23 RX6 yX6_fill wsX6_fill) := goodIn_app (goodIn_of _ (by decide +kernel)) ggX8_begin_X6_fill
set_option maxRecDepth 20000 in
theorem ggX8_get_X6_get : GoodIn wsX8_get wsX6_get := goodIn_r _ [6, 7, 10] rfl (by decide +kernel)
set_option maxRecDepth 20000 in
theorem gX8_get_X6_get : GoodIn wsX8_get (wsV RX8 26 RX6 yX6_get wsX6_get) := goodIn_app (goodIn_of _ (by decide +kernel)) ggX8_get_X6_get
set_option maxRecDepth 20000 in
theorem ggX8_mix_X0_expected : GoodIn wsX8_mix wsX0_expected := goodIn_r _ [7, 8, 9, 10, 11, 12, 13, 14, 15, 16, 17, 18, 19, 20, 21, 22, 35, 36, 37, 38, 39, 40, 41, 42, 43, 44, 45, 46, 47, 48] rfl (by decide +kernel)
set_option maxRecDepth 20000 in
theorem gX8_mix_X0_expected : GoodIn wsX8_mix (wsV RX8 30 RX0 yX0_expected wsX0_expected) := goodIn_app (goodIn_of _ (by decide +kernel)) ggX8_mix_X0_expected
set_option maxRecDepth 20000 in
theorem ggX8_mix_X6_set : GoodIn wsX8_mix wsX6_set := goodIn_r _ [27, 28, 49] rfl (by decide +kernel)
set_option maxRecDepth 20000 in
theorem gX8_mix_X6_set : GoodIn wsX8_mix (wsV RX8 34 RX6 yX6_set wsX6_set) := goodIn_app (goodIn_of _ (by decide +kernel)) ggX8_mix_X6_set
set_option maxRecDepth 20000 in
theorem ggX8_mix_X6_get : GoodIn wsX8_mix wsX6_get := goodIn_r _ [32, 28, 49] rfl (by decide +kernel)
set_option maxRecDepth 20000 in
theorem gX8_mix_X6_get : GoodIn wsX8_mix (wsV RX8 26 RX6 yX6_get wsX6_get) := goodIn_app (goodIn_of _ (by decide +kernel)) ggX8_mix_X6_get
set_option maxRecDepth 20000 in
theorem ggX8_learn_X6_get : GoodIn wsX8_learn wsX6_get := goodIn_r _ [7, 8, 18] rfl (by decide +kernel)
set_option maxRecDepth 20000 in
theorem gX8_learn_X6_get : GoodIn wsX8_learn (wsV RX8 26 RX6 yX6_get wsX6_get) := goodIn_app (goodIn_of _ (by decide +kernel)) ggX8_learn_X6_get
set_option maxRecDepth 20000 in
theorem ggX8_learn_X10_brought : GoodIn wsX8_learn wsX10_brought := goodIn_r _ [11] rfl (by decide +kernel)
set_option maxRecDepth 20000 in
theorem gX8_learn_X10_brought_n38 : GoodIn wsX8_learn (wsX10_brought) := ggX8_learn_X10_brought
set_option maxRecDepth 20000 in
theorem ggX8_learn_X6_set : GoodIn wsX8_learn wsX6_set := goodIn_r _ [15, 8, 18] rfl (by decide +kernel)
set_option maxRecDepth 20000 in
theorem gX8_learn_X6_set : GoodIn wsX8_learn (wsV RX8 34 RX6 yX6_set wsX6_set) := goodIn_app (goodIn_of _ (by decide +kernel)) ggX8_learn_X6_set
set_option maxRecDepth 20000 in
theorem ggX9_init_X3_init : GoodIn wsX9_init wsX3_init := goodIn_r _ [4, 5, 6, 7] rfl (by decide +kernel)
set_option maxRecDepth 20000 in
theorem gX9_init_X3_init_n1 : GoodIn wsX9_init (wsX3_init) := ggX9_init_X3_init
set_option maxRecDepth 20000 in
theorem ggX9_begin_X1_forget : GoodIn wsX9_begin wsX1_forget := goodIn_r _ [6, 7, 20, 21] rfl (by decide +kernel)
set_option maxRecDepth 20000 in
theorem gX9_begin_X1_forget : GoodIn wsX9_begin (wsV RX9 13 RX1 yX1_forget wsX1_forget) := goodIn_app (goodIn_of _ (by decide +kernel)) ggX9_begin_X1_forget
set_option maxRecDepth 20000 in
theorem ggX9_begin_X3_open : GoodIn wsX9_begin wsX3_open := goodIn_r _ [13, 14, 15, 16, 22, 23, 24, 25, 26, 27, 17, 18, 19] rfl (by decide +kernel)
set_option maxRecDepth 20000 in
theorem gX9_begin_X3_open_u18X9 : GoodIn wsX9_begin (va_wsU RX9 18 RX9 "MixedPredict$Interval" ⟨"MixedPredict$Writer", "open", "()V"⟩ yX3_open wsX3_open) := goodIn_app (goodIn_of _ (by decide +kernel)) ggX9_begin_X3_open
set_option maxRecDepth 20000 in
theorem ggX9_leave_X1_add : GoodIn wsX9_leave wsX1_add := goodIn_r _ [6, 7, 8, 12, 13] rfl (by decide +kernel)
set_option maxRecDepth 20000 in
theorem gX9_leave_X1_add : GoodIn wsX9_leave (wsV RX9 21 RX1 yX1_add wsX1_add) := goodIn_app (goodIn_of _ (by decide +kernel)) ggX9_leave_X1_add
set_option maxRecDepth 20000 in
theorem ggX9_end_X1_add : GoodIn wsX9_end wsX1_add := goodIn_r _ [11, 12, 13, 23, 24] rfl (by decide +kernel)
set_option maxRecDepth 20000 in
theorem gX9_end_X1_add : GoodIn wsX9_end (wsV RX9 21 RX1 yX1_add wsX1_add) := goodIn_app (goodIn_of _ (by decide +kernel)) ggX9_end_X1_add
set_option maxRecDepth 20000 in
theorem ggX10_init_X1_init : GoodIn wsX10_init wsX1_init := goodIn_r _ [37, 38, 2, 3, 39, 40, 41, 42, 43, 44, 148, 149] rfl (by decide +kernel)
set_option maxRecDepth 20000 in
theorem gX10_init_X1_init : GoodIn wsX10_init (wsX1_init) := ggX10_init_X1_init
set_option maxRecDepth 20000 in
theorem ggX10_init_X9_init : GoodIn wsX10_init wsX9_init := goodIn_r _ [47, 48, 49, 50, 51, 52, 2, 3, 160, 161, 162] rfl (by decide +kernel)
set_option maxRecDepth 20000 in
theorem gX10_init_X9_init : GoodIn wsX10_init (wsX9_init) := ggX10_init_X9_init
set_option maxRecDepth 20000 in
theorem ggX10_init_X5_init : GoodIn wsX10_init wsX5_init := goodIn_r _ [55, 56, 49, 50, 51, 52, 2, 3, 163, 164, 165, 166, 167, 168] rfl (by decide +kernel)
set_option maxRecDepth 20000 in
theorem gX10_init_X5_init : GoodIn wsX10_init (wsX5_init) := ggX10_init_X5_init
set_option maxRecDepth 20000 in
theorem ggX10_init_X6_init : GoodIn wsX10_init wsX6_init := goodIn_r _ [59, 60, 2, 3, 61, 40, 41, 42, 43, 62, 169] rfl (by decide +kernel)
set_option maxRecDepth 20000 in
theorem gX10_init_X6_init : GoodIn wsX10_init (wsX6_init) := ggX10_init_X6_init
set_option maxRecDepth 20000 in
theorem ggX10_init_X10_brought : GoodIn wsX10_init wsX10_brought := goodIn_r _ [66] rfl (by decide +kernel)
set_option maxRecDepth 20000 in
theorem gX10_init_X10_brought : GoodIn wsX10_init (va_wsS RX10 49 yX10_brought wsX10_brought) := goodIn_app (goodIn_of _ (by decide +kernel)) ggX10_init_X10_brought
set_option maxRecDepth 20000 in
theorem ggX10_init_X4_init : GoodIn wsX10_init wsX4_init := goodIn_r _ [69, 70, 2, 3, 71, 72, 73, 74, 75, 76, 77, 40, 41, 42, 78, 79, 19, 20, 80, 81, 58, 59, 60, 61, 43, 62, 170, 171, 172, 173, 174, 175, 176, 177, 169] rfl (by decide +kernel)
set_option maxRecDepth 20000 in
theorem gX10_init_X4_init : GoodIn wsX10_init (wsX4_init) := ggX10_init_X4_init
set_option maxRecDepth 20000 in
theorem ggX10_init_X0_init : GoodIn wsX10_init wsX0_init := goodIn_r _ [84, 85, 2, 3, 86, 178, 179, 180, 181, 182, 183] rfl (by decide +kernel)
set_option maxRecDepth 20000 in
theorem gX10_init_X0_init : GoodIn wsX10_init (wsX0_init) := ggX10_init_X0_init
set_option maxRecDepth 20000 in
theorem ggX10_init_X7_init : GoodIn wsX10_init wsX7_init := goodIn_r _ [89, 90, 2, 3, 91, 92, 93, 94, 95, 96, 27, 28, 97, 98, 99, 100, 101, 102, 103, 104, 19, 20, 105, 106, 107, 108, 109, 110, 111, 112, 58, 59, 60, 61, 40, 41, 42, 43, 62, 113, 83, 84, 85, 86, 114, 115, 116, 117, 118, 119, 120, 121, 122, 123, 124, 125, 126, 127, 32, 128, 129, 130, 131, 132, 133, 134, 135, 136, 137, 138, 139, 140, 141, 142, 143, 144, 145, 146, 147, 189, 190, 184, 185, 186, 187, 188, 178, 179, 180, 181, 182, 183, 191, 192, 193, 194, 170, 171, 172, 173, 174, 175, 176, 177, 169] rfl (by decide +kernel)
set_option maxRecDepth 20000 in
theorem gX10_init_X7_init : GoodIn wsX10_init (wsX7_init) := ggX10_init_X7_init
set_option maxRecDepth 20000 in
theorem ggX10_put_X4_has : GoodIn wsX10_put wsX4_has := goodIn_r _ [11, 12, 13, 14, 15, 16, 10, 17, 18, 48, 49, 50, 51, 52, 53, 54, 55] rfl (by decide +kernel)
set_option maxRecDepth 20000 in
theorem gX10_put_X4_has : GoodIn wsX10_put (wsV RX10 79 RX4 yX4_has wsX4_has) := goodIn_app (goodIn_of _ (by decide +kernel)) ggX10_put_X4_has
set_option maxRecDepth 20000 in
theorem ggX10_put_X4_change : GoodIn wsX10_put wsX4_change := goodIn_r _ [22, 23, 12, 18, 24, 25, 26, 10, 27, 28, 29, 30, 31, 32, 33, 34, 35, 36, 37, 48, 49, 50, 51, 52, 53, 54, 55, 56] rfl (by decide +kernel)
set_option maxRecDepth 20000 in
theorem gX10_put_X4_change : GoodIn wsX10_put (wsV RX10 99 RX4 yX4_change wsX4_change) := goodIn_app (goodIn_of _ (by decide +kernel)) ggX10_put_X4_change
set_option maxRecDepth 20000 in
theorem ggX10_paint_X4_change : GoodIn wsX10_paint wsX4_change := goodIn_r _ [10, 11, 12, 13, 14, 15, 16, 9, 17, 18, 19, 20, 21, 22, 23, 24, 25, 26, 27, 38, 39, 40, 41, 42, 43, 44, 45, 46] rfl (by decide +kernel)
set_option maxRecDepth 20000 in
theorem gX10_paint_X4_change : GoodIn wsX10_paint (wsV RX10 99 RX4 yX4_change wsX4_change) := goodIn_app (goodIn_of _ (by decide +kernel)) ggX10_paint_X4_change
set_option maxRecDepth 20000 in
theorem ggX10_at_X4_has : GoodIn wsX10_at wsX4_has := goodIn_r _ [8, 9, 10, 11, 12, 13, 7, 14, 15, 37, 38, 39, 40, 41, 42, 43, 44] rfl (by decide +kernel)
set_option maxRecDepth 20000 in
theorem gX10_at_X4_has : GoodIn wsX10_at (wsV RX10 79 RX4 yX4_has wsX4_has) := goodIn_app (goodIn_of _ (by decide +kernel)) ggX10_at_X4_has
set_option maxRecDepth 20000 in
theorem ggX10_at_X4_sample : GoodIn wsX10_at wsX4_sample := goodIn_r _ [19, 20, 9, 15, 21, 22, 23, 24, 25, 26, 37, 38, 39, 40, 41, 42, 43, 44, 45] rfl (by decide +kernel)
set_option maxRecDepth 20000 in
theorem gX10_at_X4_sample : GoodIn wsX10_at (wsV RX10 112 RX4 yX4_sample wsX4_sample) := goodIn_app (goodIn_of _ (by decide +kernel)) ggX10_at_X4_sample
set_option maxRecDepth 20000 in
theorem ggX10_predicted_X4_has : GoodIn wsX10_predicted wsX4_has := goodIn_r _ [9, 10, 11, 12, 13, 14, 8, 15, 16, 63, 64, 65, 66, 67, 68, 69, 70] rfl (by decide +kernel)
set_option maxRecDepth 20000 in
theorem gX10_predicted_X4_has : GoodIn wsX10_predicted (wsV RX10 79 RX4 yX4_has wsX4_has) := goodIn_app (goodIn_of _ (by decide +kernel)) ggX10_predicted_X4_has
set_option maxRecDepth 20000 in
theorem ggX10_predicted_X0_look : GoodIn wsX10_predicted wsX0_look := goodIn_r _ [21, 22, 23, 24, 25, 26, 27, 28, 29, 30, 31, 32, 8, 33, 34, 10, 16, 35, 36, 37, 38, 39, 40, 71, 72, 73, 74, 75, 76, 63, 64, 65, 66, 67, 68, 69, 70, 77] rfl (by decide +kernel)
set_option maxRecDepth 20000 in
theorem gX10_predicted_X0_look : GoodIn wsX10_predicted (wsV RX10 117 RX0 yX0_look wsX0_look) := goodIn_app (goodIn_of _ (by decide +kernel)) ggX10_predicted_X0_look
set_option maxRecDepth 20000 in
theorem ggX10_predicted_X0_expected : GoodIn wsX10_predicted wsX0_expected := goodIn_r _ [44, 25, 26, 27, 28, 22, 29, 45, 46, 47, 8, 48, 49, 50, 51, 52, 71, 72, 73, 74, 75, 76, 63, 64, 65, 66, 67, 68, 69, 70] rfl (by decide +kernel)
set_option maxRecDepth 20000 in
theorem gX10_predicted_X0_expected : GoodIn wsX10_predicted (wsV RX10 121 RX0 yX0_expected wsX0_expected) := goodIn_app (goodIn_of _ (by decide +kernel)) ggX10_predicted_X0_expected
set_option maxRecDepth 20000 in
theorem ggX10_encode_X1_forget : GoodIn wsX10_encode wsX1_forget := goodIn_r _ [9, 10, 296, 297] rfl (by decide +kernel)
set_option maxRecDepth 20000 in
theorem gX10_encode_X1_forget : GoodIn wsX10_encode (wsV RX10 125 RX1 yX1_forget wsX1_forget) := goodIn_app (goodIn_of _ (by decide +kernel)) ggX10_encode_X1_forget
set_option maxRecDepth 20000 in
theorem ggX10_encode_X4_tiles : GoodIn wsX10_encode wsX4_tiles := goodIn_r _ [15, 16, 17, 298, 299, 300, 301, 302, 303, 304, 305] rfl (by decide +kernel)
set_option maxRecDepth 20000 in
theorem gX10_encode_X4_tiles : GoodIn wsX10_encode (wsV RX10 128 RX4 yX4_tiles wsX4_tiles) := goodIn_app (goodIn_of _ (by decide +kernel)) ggX10_encode_X4_tiles
set_option maxRecDepth 20000 in
theorem ggX10_encode_X9_begin : GoodIn wsX10_encode wsX9_begin := goodIn_r _ [22, 23, 24, 6, 7, 8, 9, 10, 25, 26, 27, 28, 29, 30, 31, 32, 33, 306, 307, 308, 296, 297, 309, 310, 311, 312, 313, 314] rfl (by decide +kernel)
set_option maxRecDepth 20000 in
theorem gX10_encode_X9_begin : GoodIn wsX10_encode (wsV RX10 132 RX9 yX9_begin wsX9_begin) := goodIn_app (goodIn_of _ (by decide +kernel)) ggX10_encode_X9_begin
set_option maxRecDepth 20000 in
theorem ggX10_encode_X4_left : GoodIn wsX10_encode wsX4_left := goodIn_r _ [37, 16, 298, 299, 300, 301, 302, 303, 304, 305] rfl (by decide +kernel)
set_option maxRecDepth 20000 in
theorem gX10_encode_X4_left : GoodIn wsX10_encode (wsV RX10 135 RX4 yX4_left wsX4_left) := goodIn_app (goodIn_of _ (by decide +kernel)) ggX10_encode_X4_left
set_option maxRecDepth 20000 in
theorem ggX10_encode_X4_top : GoodIn wsX10_encode wsX4_top := goodIn_r _ [41, 16, 298, 299, 300, 301, 302, 303, 304, 305] rfl (by decide +kernel)
set_option maxRecDepth 20000 in
theorem gX10_encode_X4_top : GoodIn wsX10_encode (wsV RX10 138 RX4 yX4_top wsX4_top) := goodIn_app (goodIn_of _ (by decide +kernel)) ggX10_encode_X4_top
set_option maxRecDepth 20000 in
theorem ggX10_encode_X7_tell : GoodIn wsX10_encode wsX7_tell := goodIn_r _ [46, 47, 48, 49, 50, 51, 52, 53, 45, 54, 55, 56, 57, 58, 59, 60, 61, 62, 63, 64, 65, 66, 67, 68, 69, 70, 71, 72, 73, 74, 75, 76, 77, 78, 79, 80, 81, 82, 83, 84, 85, 86, 87, 88, 89, 90, 91, 92, 93, 94, 95, 96, 97, 98, 99, 100, 101, 102, 103, 104, 105, 106, 107, 108, 109, 110, 14, 111, 112, 113, 114, 115, 116, 117, 118, 119, 120, 121, 122, 123, 124, 125, 126, 127, 128, 129, 130, 131, 132, 133, 134, 135, 136, 137, 138, 139, 140, 141, 142, 143, 144, 145, 146, 147, 148, 149, 150, 151, 152, 153, 154, 155, 156, 157, 158, 159, 160, 161, 162, 163, 164, 165, 166, 167, 168, 169, 170, 171, 172, 173, 174, 175, 29, 176, 31, 33, 177, 32, 178, 179, 180, 181, 182, 183, 184, 185, 186, 187, 21, 188, 189, 190, 191, 192, 193, 194, 195, 196, 197, 198, 199, 200, 8, 201, 10, 202, 203, 204, 205, 23, 206, 207, 208, 209, 210, 211, 212, 213, 214, 215, 216, 217, 218, 219, 220, 221, 222, 223, 224, 225, 226, 227, 228, 229, 230, 231, 315, 316, 317, 318, 319, 298, 299, 300, 301, 302, 303, 304, 305, 320, 321, 322, 323, 324, 325, 326, 327, 328, 329, 330, 331, 332, 309, 310, 311, 312, 313, 314, 306, 307, 308, 296, 297] rfl (by decide +kernel)
set_option maxRecDepth 20000 in
theorem gX10_encode_X7_tell : GoodIn wsX10_encode (wsV RX10 141 RX7 yX7_tell wsX7_tell) := goodIn_app (goodIn_of _ (by decide +kernel)) ggX10_encode_X7_tell
set_option maxRecDepth 20000 in
theorem ggX10_encode_X9_end : GoodIn wsX10_encode wsX9_end := goodIn_r _ [235, 236, 237, 238, 239, 23, 240, 206, 207, 208, 8, 209, 10, 202, 309, 310, 311, 312, 313, 314, 306, 307, 308, 296, 297] rfl (by decide +kernel)
set_option maxRecDepth 20000 in
theorem gX10_encode_X9_end : GoodIn wsX10_encode (wsV RX10 145 RX9 yX9_end wsX9_end) := goodIn_app (goodIn_of _ (by decide +kernel)) ggX10_encode_X9_end
set_option maxRecDepth 20000 in
theorem ggX10_encode_X10_putOut : GoodIn wsX10_encode wsX10_putOut := goodIn_r _ [244, 245, 2, 246, 1, 247, 248, 249, 8, 250, 10, 251, 252, 253, 14, 254, 114, 255, 256, 257, 258, 113, 259, 92, 93, 94, 260, 35, 36, 37, 16, 261, 262, 263, 264, 17, 265, 39, 40, 41, 5, 6, 7, 9, 266, 267, 268, 134, 269, 270, 38, 271, 34, 272, 273, 109, 110, 111, 112, 115, 116, 117, 67, 118, 69, 274, 207, 208, 209, 202, 275, 137, 138, 139, 276, 277, 278, 279, 199, 200, 201, 280, 281, 282, 283, 284, 285, 286, 287, 288, 289, 290, 291, 292, 293, 294, 295, 296, 297, 298, 299, 300, 301, 302, 303, 304, 305, 322] rfl (by decide +kernel)
set_option maxRecDepth 20000 in
theorem gX10_encode_X10_putOut : GoodIn wsX10_encode (wsV RX10 148 RX10 yX10_putOut wsX10_putOut) := goodIn_app (goodIn_of _ (by decide +kernel)) ggX10_encode_X10_putOut
set_option maxRecDepth 20000 in
theorem ggX10_encode_X1_count : GoodIn wsX10_encode wsX1_count := goodIn_r _ [250, 10, 296, 297] rfl (by decide +kernel)
set_option maxRecDepth 20000 in
theorem gX10_encode_X1_count : GoodIn wsX10_encode (wsV RX10 151 RX1 yX1_count wsX1_count) := goodIn_app (goodIn_of _ (by decide +kernel)) ggX10_encode_X1_count
set_option maxRecDepth 20000 in
theorem ggX10_byteAt_X1_has : GoodIn wsX10_byteAt wsX1_has := goodIn_r _ [8, 9, 25, 26] rfl (by decide +kernel)
set_option maxRecDepth 20000 in
theorem gX10_byteAt_X1_has : GoodIn wsX10_byteAt (wsV RX10 154 RX1 yX1_has wsX1_has) := goodIn_app (goodIn_of _ (by decide +kernel)) ggX10_byteAt_X1_has
set_option maxRecDepth 20000 in
theorem ggX10_byteAt_X1_get : GoodIn wsX10_byteAt wsX1_get := goodIn_r _ [13, 9, 14, 25, 26] rfl (by decide +kernel)
set_option maxRecDepth 20000 in
theorem gX10_byteAt_X1_get : GoodIn wsX10_byteAt (wsV RX10 159 RX1 yX1_get wsX1_get) := goodIn_app (goodIn_of _ (by decide +kernel)) ggX10_byteAt_X1_get
set_option maxRecDepth 20000 in
theorem ggX10_plain_X4_tiles : GoodIn wsX10_plain wsX4_tiles := goodIn_r _ [9, 10, 11, 28, 29, 30, 31, 32, 33, 34, 35] rfl (by decide +kernel)
set_option maxRecDepth 20000 in
theorem gX10_plain_X4_tiles : GoodIn wsX10_plain (wsV RX10 128 RX4 yX4_tiles wsX4_tiles) := goodIn_app (goodIn_of _ (by decide +kernel)) ggX10_plain_X4_tiles
set_option maxRecDepth 20000 in
theorem ggX10_plain_X6_get : GoodIn wsX10_plain wsX6_get := goodIn_r _ [16, 17, 36] rfl (by decide +kernel)
set_option maxRecDepth 20000 in
theorem gX10_plain_X6_get : GoodIn wsX10_plain (wsV RX10 164 RX6 yX6_get wsX6_get) := goodIn_app (goodIn_of _ (by decide +kernel)) ggX10_plain_X6_get
set_option maxRecDepth 20000 in
theorem ggX10_weight_X8_get : GoodIn wsX10_weight wsX8_get := goodIn_r _ [9, 10, 11, 12, 13, 14, 15, 16, 32, 33, 34] rfl (by decide +kernel)
set_option maxRecDepth 20000 in
theorem gX10_weight_X8_get : GoodIn wsX10_weight (wsV RX10 169 RX8 yX8_get wsX8_get) := goodIn_app (goodIn_of _ (by decide +kernel)) ggX10_weight_X8_get
set_option maxRecDepth 20000 in
theorem ggX10_chance_X4_hasChannel : GoodIn wsX10_chance wsX4_hasChannel := goodIn_r _ [15, 16, 39, 40, 41, 42, 43, 44, 45, 46] rfl (by decide +kernel)
set_option maxRecDepth 20000 in
theorem gX10_chance_X4_hasChannel : GoodIn wsX10_chance (wsV RX10 172 RX4 yX4_hasChannel wsX4_hasChannel) := goodIn_app (goodIn_of _ (by decide +kernel)) ggX10_chance_X4_hasChannel
set_option maxRecDepth 20000 in
theorem ggX10_chance_X2_place : GoodIn wsX10_chance wsX2_place := goodIn_r _ [21, 22, 52, 53, 54, 55] rfl (by decide +kernel)
set_option maxRecDepth 20000 in
theorem gX10_chance_X2_place : GoodIn wsX10_chance (wsV RX10 185 RX2 yX2_place wsX2_place) := goodIn_app (goodIn_of _ (by decide +kernel)) ggX10_chance_X2_place
set_option maxRecDepth 20000 in
theorem ggX10_chance_X6_get : GoodIn wsX10_chance wsX6_get := goodIn_r _ [27, 28, 56] rfl (by decide +kernel)
set_option maxRecDepth 20000 in
theorem gX10_chance_X6_get : GoodIn wsX10_chance (wsV RX10 164 RX6 yX6_get wsX6_get) := goodIn_app (goodIn_of _ (by decide +kernel)) ggX10_chance_X6_get
set_option maxRecDepth 20000 in
theorem ggX10_share_X4_hasChannel : GoodIn wsX10_share wsX4_hasChannel := goodIn_r _ [11, 12, 38, 39, 40, 41, 42, 43, 44, 45] rfl (by decide +kernel)
set_option maxRecDepth 20000 in
theorem gX10_share_X4_hasChannel : GoodIn wsX10_share (wsV RX10 172 RX4 yX4_hasChannel wsX4_hasChannel) := goodIn_app (goodIn_of _ (by decide +kernel)) ggX10_share_X4_hasChannel
set_option maxRecDepth 20000 in
theorem ggX10_share_X6_get : GoodIn wsX10_share wsX6_get := goodIn_r _ [17, 18, 46] rfl (by decide +kernel)
set_option maxRecDepth 20000 in
theorem gX10_share_X6_get : GoodIn wsX10_share (wsV RX10 164 RX6 yX6_get wsX6_get) := goodIn_app (goodIn_of _ (by decide +kernel)) ggX10_share_X6_get
set_option maxRecDepth 20000 in
theorem ggX10_feed_X1_count : GoodIn wsX10_feed wsX1_count := goodIn_r _ [10, 11, 27, 28] rfl (by decide +kernel)
set_option maxRecDepth 20000 in
theorem gX10_feed_X1_count : GoodIn wsX10_feed (wsV RX10 151 RX1 yX1_count wsX1_count) := goodIn_app (goodIn_of _ (by decide +kernel)) ggX10_feed_X1_count
set_option maxRecDepth 20000 in
theorem ggX10_feed_X1_add : GoodIn wsX10_feed wsX1_add := goodIn_r _ [15, 11, 16, 27, 28] rfl (by decide +kernel)
set_option maxRecDepth 20000 in
theorem gX10_feed_X1_add : GoodIn wsX10_feed (wsV RX10 206 RX1 yX1_add wsX1_add) := goodIn_app (goodIn_of _ (by decide +kernel)) ggX10_feed_X1_add
set_option maxRecDepth 20000 in
theorem ggX10_pass_X1_count : GoodIn wsX10_pass wsX1_count := goodIn_r _ [9, 10, 34, 35] rfl (by decide +kernel)
set_option maxRecDepth 20000 in
theorem gX10_pass_X1_count : GoodIn wsX10_pass (wsV RX10 151 RX1 yX1_count wsX1_count) := goodIn_app (goodIn_of _ (by decide +kernel)) ggX10_pass_X1_count
set_option maxRecDepth 20000 in
theorem ggX10_pass_X1_addAll : GoodIn wsX10_pass wsX1_addAll := goodIn_r _ [14, 10, 15, 16, 17, 8, 18, 19, 20, 21, 22, 23, 34, 35] rfl (by decide +kernel)
set_option maxRecDepth 20000 in
theorem gX10_pass_X1_addAll : GoodIn wsX10_pass (wsV RX10 209 RX1 yX1_addAll wsX1_addAll) := goodIn_app (goodIn_of _ (by decide +kernel)) ggX10_pass_X1_addAll
set_option maxRecDepth 20000 in
theorem ggX10_poke_X1_has : GoodIn wsX10_poke wsX1_has := goodIn_r _ [10, 11, 31, 32] rfl (by decide +kernel)
set_option maxRecDepth 20000 in
theorem gX10_poke_X1_has : GoodIn wsX10_poke (wsV RX10 154 RX1 yX1_has wsX1_has) := goodIn_app (goodIn_of _ (by decide +kernel)) ggX10_poke_X1_has
set_option maxRecDepth 20000 in
theorem ggX10_poke_X1_get : GoodIn wsX10_poke wsX1_get := goodIn_r _ [15, 11, 16, 31, 32] rfl (by decide +kernel)
set_option maxRecDepth 20000 in
theorem gX10_poke_X1_get : GoodIn wsX10_poke (wsV RX10 159 RX1 yX1_get wsX1_get) := goodIn_app (goodIn_of _ (by decide +kernel)) ggX10_poke_X1_get
set_option maxRecDepth 20000 in
theorem ggX10_poke_X1_set : GoodIn wsX10_poke wsX1_set := goodIn_r _ [20, 11, 16, 31, 32] rfl (by decide +kernel)
set_option maxRecDepth 20000 in
theorem gX10_poke_X1_set : GoodIn wsX10_poke (wsV RX10 216 RX1 yX1_set wsX1_set) := goodIn_app (goodIn_of _ (by decide +kernel)) ggX10_poke_X1_set
set_option maxRecDepth 20000 in
theorem ggX10_decode_X4_count : GoodIn wsX10_decode wsX4_count := goodIn_r _ [9, 10, 11, 12, 291, 292, 293, 294, 295, 296, 297, 298] rfl (by decide +kernel)
set_option maxRecDepth 20000 in
theorem gX10_decode_X4_count : GoodIn wsX10_decode (wsV RX10 220 RX4 yX4_count wsX4_count) := goodIn_app (goodIn_of _ (by decide +kernel)) ggX10_decode_X4_count
set_option maxRecDepth 20000 in
theorem ggX10_decode_X4_tiles : GoodIn wsX10_decode wsX4_tiles := goodIn_r _ [16, 17, 11, 291, 292, 293, 294, 295, 296, 297, 298] rfl (by decide +kernel)
set_option maxRecDepth 20000 in
theorem gX10_decode_X4_tiles : GoodIn wsX10_decode (wsV RX10 128 RX4 yX4_tiles wsX4_tiles) := goodIn_app (goodIn_of _ (by decide +kernel)) ggX10_decode_X4_tiles
set_option maxRecDepth 20000 in
theorem ggX10_decode_X10_isGood : GoodIn wsX10_decode wsX10_isGood := goodIn_r _ [22, 2, 1, 23, 24, 25, 26, 27, 28, 29, 30, 31, 32, 21, 33, 34, 35, 36, 37, 38, 39, 40, 41, 42, 43, 8, 44, 12, 45, 46, 47, 48, 10, 49, 50, 51, 52, 53, 54, 55, 56, 17, 57, 58, 59, 60, 11, 61, 62, 63, 64, 65, 66, 67, 68, 69, 281, 282, 283, 284, 285, 286, 287, 288, 289, 290, 299, 300, 291, 292, 293, 294, 295, 296, 297, 298] rfl (by decide +kernel)
set_option maxRecDepth 20000 in
theorem gX10_decode_X10_isGood : GoodIn wsX10_decode (wsV RX10 221 RX10 yX10_isGood wsX10_isGood) := goodIn_app (goodIn_of _ (by decide +kernel)) ggX10_decode_X10_isGood
set_option maxRecDepth 20000 in
theorem ggX10_decode_X10_following : GoodIn wsX10_decode wsX10_following := goodIn_r _ [33, 2, 23, 24, 25, 26, 27, 28, 29, 281, 282, 283, 284, 285, 286, 287, 288, 289, 290, 299, 300] rfl (by decide +kernel)
set_option maxRecDepth 20000 in
theorem gX10_decode_X10_following : GoodIn wsX10_decode (wsV RX10 225 RX10 yX10_following wsX10_following) := goodIn_app (goodIn_of _ (by decide +kernel)) ggX10_decode_X10_following
set_option maxRecDepth 20000 in
theorem ggX10_decode_X1_get : GoodIn wsX10_decode wsX1_get := goodIn_r _ [27, 28, 29, 299, 300] rfl (by decide +kernel)
set_option maxRecDepth 20000 in
theorem gX10_decode_X1_get : GoodIn wsX10_decode (wsV RX10 159 RX1 yX1_get wsX1_get) := goodIn_app (goodIn_of _ (by decide +kernel)) ggX10_decode_X1_get
set_option maxRecDepth 20000 in
theorem ggX10_decode_X10_takeAsItIs : GoodIn wsX10_decode wsX10_takeAsItIs := goodIn_r _ [73, 1, 74, 2, 75, 62, 63, 8, 64, 17, 76, 58, 59, 60, 11, 49, 50, 51, 52, 61, 77, 54, 55, 56, 78, 46, 47, 48, 10, 53, 23, 24, 25, 26, 27, 28, 29, 79, 80, 81, 82, 83, 12, 84, 85, 86, 87, 88, 89, 90, 91, 92, 93, 94, 95, 96, 97, 281, 282, 283, 284, 285, 286, 287, 288, 289, 290, 291, 292, 293, 294, 295, 296, 297, 298, 299, 300, 301] rfl (by decide +kernel)
set_option maxRecDepth 20000 in
theorem gX10_decode_X10_takeAsItIs : GoodIn wsX10_decode (wsV RX10 228 RX10 yX10_takeAsItIs wsX10_takeAsItIs) := goodIn_app (goodIn_of _ (by decide +kernel)) ggX10_decode_X10_takeAsItIs
set_option maxRecDepth 20000 in
theorem ggX10_decode_X5_begin : GoodIn wsX10_decode wsX5_begin := goodIn_r _ [102, 103, 104, 105, 106, 107, 108, 109, 110, 111, 112, 113, 114, 115, 116, 117, 101, 118, 119, 120, 121, 24, 25, 26, 27, 28, 29, 302, 303, 304, 305, 306, 307, 308, 309, 310, 299, 300] rfl (by decide +kernel)
set_option maxRecDepth 20000 in
theorem gX10_decode_X5_begin : GoodIn wsX10_decode (wsV RX10 231 RX5 yX5_begin wsX5_begin) := goodIn_app (goodIn_of _ (by decide +kernel)) ggX10_decode_X5_begin
set_option maxRecDepth 20000 in
theorem ggX10_decode_X4_left : GoodIn wsX10_decode wsX4_left := goodIn_r _ [56, 17, 291, 292, 293, 294, 295, 296, 297, 298] rfl (by decide +kernel)
set_option maxRecDepth 20000 in
theorem gX10_decode_X4_left : GoodIn wsX10_decode (wsV RX10 135 RX4 yX4_left wsX4_left) := goodIn_app (goodIn_of _ (by decide +kernel)) ggX10_decode_X4_left
set_option maxRecDepth 20000 in
theorem ggX10_decode_X4_top : GoodIn wsX10_decode wsX4_top := goodIn_r _ [64, 17, 291, 292, 293, 294, 295, 296, 297, 298] rfl (by decide +kernel)
set_option maxRecDepth 20000 in
theorem gX10_decode_X4_top : GoodIn wsX10_decode (wsV RX10 138 RX4 yX4_top wsX4_top) := goodIn_app (goodIn_of _ (by decide +kernel)) ggX10_decode_X4_top
set_option maxRecDepth 20000 in
theorem ggX10_decode_X7_tell : GoodIn wsX10_decode wsX7_tell := goodIn_r _ [126, 127, 128, 129, 130, 131, 132, 133, 125, 134, 135, 136, 137, 138, 139, 140, 141, 142, 143, 144, 145, 146, 91, 147, 93, 148, 149, 150, 151, 152, 153, 154, 155, 156, 157, 158, 159, 160, 161, 162, 163, 164, 165, 166, 167, 168, 169, 50, 51, 52, 170, 171, 172, 173, 174, 175, 176, 177, 178, 179, 180, 181, 182, 183, 85, 86, 8, 87, 83, 10, 12, 88, 89, 90, 92, 184, 185, 186, 187, 188, 189, 190, 191, 192, 193, 194, 195, 196, 197, 198, 21, 199, 200, 95, 96, 97, 201, 202, 203, 204, 205, 206, 207, 208, 209, 210, 211, 212, 213, 214, 215, 216, 217, 218, 219, 220, 221, 222, 223, 224, 225, 226, 227, 228, 229, 230, 231, 232, 233, 234, 235, 236, 110, 237, 112, 114, 238, 113, 239, 240, 241, 242, 243, 101, 244, 105, 245, 246, 247, 248, 249, 250, 251, 116, 118, 119, 103, 104, 120, 121, 24, 25, 26, 27, 28, 29, 252, 253, 254, 255, 256, 257, 258, 259, 260, 261, 262, 263, 264, 265, 266, 267, 268, 269, 270, 271, 272, 273, 274, 275, 276, 80, 81, 82, 84, 94, 311, 312, 313, 314, 315, 291, 292, 293, 294, 295, 296, 297, 298, 316, 317, 301, 318, 319, 320, 321, 322, 323, 324, 325, 326, 327, 302, 303, 304, 305, 306, 307, 308, 309, 310, 299, 300] rfl (by decide +kernel)
set_option maxRecDepth 20000 in
theorem gX10_decode_X7_tell : GoodIn wsX10_decode (wsV RX10 141 RX7 yX7_tell wsX7_tell) := goodIn_app (goodIn_of _ (by decide +kernel)) ggX10_decode_X7_tell
set_option maxRecDepth 20000 in
theorem ggX10_decode_X1_forget : GoodIn wsX10_decode wsX1_forget := goodIn_r _ [280, 28, 299, 300] rfl (by decide +kernel)
set_option maxRecDepth 20000 in
theorem gX10_decode_X1_forget : GoodIn wsX10_decode (wsV RX10 125 RX1 yX1_forget wsX1_forget) := goodIn_app (goodIn_of _ (by decide +kernel)) ggX10_decode_X1_forget
set_option maxRecDepth 20000 in
theorem ggX10_told_X4_tiles : GoodIn wsX10_told wsX4_tiles := goodIn_r _ [12, 13, 14, 31, 32, 33, 34, 35, 36, 37, 38] rfl (by decide +kernel)
set_option maxRecDepth 20000 in
theorem gX10_told_X4_tiles : GoodIn wsX10_told (wsV RX10 128 RX4 yX4_tiles wsX4_tiles) := goodIn_app (goodIn_of _ (by decide +kernel)) ggX10_told_X4_tiles
set_option maxRecDepth 20000 in
theorem ggX10_told_X1_count : GoodIn wsX10_told wsX1_count := goodIn_r _ [19, 20, 39, 40] rfl (by decide +kernel)
set_option maxRecDepth 20000 in
theorem gX10_told_X1_count : GoodIn wsX10_told (wsV RX10 151 RX1 yX1_count wsX1_count) := goodIn_app (goodIn_of _ (by decide +kernel)) ggX10_told_X1_count
set_option maxRecDepth 20000 in
theorem ggX10_clear_X4_blacken : GoodIn wsX10_clear wsX4_blacken := goodIn_r _ [10, 11, 12, 13, 14, 15, 16, 17, 18, 19, 20, 21, 65, 66, 67, 68, 69, 70, 71, 72, 73] rfl (by decide +kernel)
set_option maxRecDepth 20000 in
theorem gX10_clear_X4_blacken : GoodIn wsX10_clear (wsV RX10 236 RX4 yX4_blacken wsX4_blacken) := goodIn_app (goodIn_of _ (by decide +kernel)) ggX10_clear_X4_blacken
set_option maxRecDepth 20000 in
theorem ggX10_clear_X1_forget : GoodIn wsX10_clear wsX1_forget := goodIn_r _ [26, 27, 74, 75] rfl (by decide +kernel)
set_option maxRecDepth 20000 in
theorem gX10_clear_X1_forget : GoodIn wsX10_clear (wsV RX10 125 RX1 yX1_forget wsX1_forget) := goodIn_app (goodIn_of _ (by decide +kernel)) ggX10_clear_X1_forget
set_option maxRecDepth 20000 in
theorem ggX10_clear_X6_fill : GoodIn wsX10_clear wsX6_fill := goodIn_r _ [16, 17, 18, 19, 20, 21, 73] rfl (by decide +kernel)
set_option maxRecDepth 20000 in
theorem gX10_clear_X6_fill : GoodIn wsX10_clear (wsV RX10 239 RX6 yX6_fill wsX6_fill) := goodIn_app (goodIn_of _ (by decide +kernel)) ggX10_clear_X6_fill
set_option maxRecDepth 20000 in
theorem ggX10_clear_X7_begin : GoodIn wsX10_clear wsX7_begin := goodIn_r _ [33, 34, 35, 36, 37, 38, 39, 40, 41, 42, 43, 13, 14, 15, 16, 17, 18, 19, 20, 21, 44, 45, 46, 47, 48, 49, 50, 51, 52, 53, 54, 76, 77, 78, 79, 80, 81, 82, 73, 83, 84, 85, 86] rfl (by decide +kernel)
set_option maxRecDepth 20000 in
theorem gX10_clear_X7_begin : GoodIn wsX10_clear (wsV RX10 242 RX7 yX7_begin wsX7_begin) := goodIn_app (goodIn_of _ (by decide +kernel)) ggX10_clear_X7_begin
set_option maxRecDepth 20000 in
theorem ggX10_putOut_X1_count : GoodIn wsX10_putOut wsX1_count := goodIn_r _ [9, 10, 97, 98] rfl (by decide +kernel)
set_option maxRecDepth 20000 in
theorem gX10_putOut_X1_count : GoodIn wsX10_putOut (wsV RX10 151 RX1 yX1_count wsX1_count) := goodIn_app (goodIn_of _ (by decide +kernel)) ggX10_putOut_X1_count
set_option maxRecDepth 20000 in
theorem ggX10_putOut_X4_countIn : GoodIn wsX10_putOut wsX4_countIn := goodIn_r _ [15, 16, 17, 18, 19, 14, 20, 21, 22, 23, 24, 25, 26, 27, 28, 29, 30, 31, 32, 33, 34, 35, 36, 37, 38, 39, 99, 100, 101, 102, 103, 104, 105, 106] rfl (by decide +kernel)
set_option maxRecDepth 20000 in
theorem gX10_putOut_X4_countIn : GoodIn wsX10_putOut (wsV RX10 243 RX4 yX4_countIn wsX4_countIn) := goodIn_app (goodIn_of _ (by decide +kernel)) ggX10_putOut_X4_countIn
set_option maxRecDepth 20000 in
theorem ggX10_putOut_X1_forget : GoodIn wsX10_putOut wsX1_forget := goodIn_r _ [43, 10, 97, 98] rfl (by decide +kernel)
set_option maxRecDepth 20000 in
theorem gX10_putOut_X1_forget : GoodIn wsX10_putOut (wsV RX10 125 RX1 yX1_forget wsX1_forget) := goodIn_app (goodIn_of _ (by decide +kernel)) ggX10_putOut_X1_forget
set_option maxRecDepth 20000 in
theorem ggX10_putOut_X10_spell : GoodIn wsX10_putOut wsX10_spell := goodIn_r _ [48, 2, 49, 1, 50, 37, 38, 14, 39, 30, 51, 32, 33, 34, 35, 22, 23, 24, 25, 36, 52, 27, 28, 29, 53, 18, 19, 20, 21, 26, 54, 55, 56, 57, 58, 16, 59, 60, 61, 62, 63, 64, 65, 66, 67, 8, 68, 10, 69, 87, 88, 89, 90, 91, 92, 93, 94, 95, 96, 99, 100, 101, 102, 103, 104, 105, 106, 107, 97, 98] rfl (by decide +kernel)
set_option maxRecDepth 20000 in
theorem gX10_putOut_X10_spell : GoodIn wsX10_putOut (wsV RX10 246 RX10 yX10_spell wsX10_spell) := goodIn_app (goodIn_of _ (by decide +kernel)) ggX10_putOut_X10_spell
set_option maxRecDepth 20000 in
theorem ggX10_putOut_X6_set : GoodIn wsX10_putOut wsX6_set := goodIn_r _ [73, 64, 107] rfl (by decide +kernel)
set_option maxRecDepth 20000 in
theorem gX10_putOut_X6_set : GoodIn wsX10_putOut (wsV RX10 249 RX6 yX6_set wsX6_set) := goodIn_app (goodIn_of _ (by decide +kernel)) ggX10_putOut_X6_set
set_option maxRecDepth 20000 in
theorem ggX10_putOut_X1_add : GoodIn wsX10_putOut wsX1_add := goodIn_r _ [68, 10, 69, 97, 98] rfl (by decide +kernel)
set_option maxRecDepth 20000 in
theorem gX10_putOut_X1_add : GoodIn wsX10_putOut (wsV RX10 206 RX1 yX1_add wsX1_add) := goodIn_app (goodIn_of _ (by decide +kernel)) ggX10_putOut_X1_add
set_option maxRecDepth 20000 in
theorem ggX10_putOut_X10_sum : GoodIn wsX10_putOut wsX10_sum := goodIn_r _ [76, 77, 78, 79, 8, 80, 10, 69, 97, 98] rfl (by decide +kernel)
set_option maxRecDepth 20000 in
theorem gX10_putOut_X10_sum : GoodIn wsX10_putOut (va_wsS RX10 250 yX10_sum wsX10_sum) := goodIn_app (goodIn_of _ (by decide +kernel)) ggX10_putOut_X10_sum
set_option maxRecDepth 20000 in
theorem ggX10_putOut_X1_addAll : GoodIn wsX10_putOut wsX1_addAll := goodIn_r _ [84, 10, 85, 78, 79, 8, 80, 69, 86, 66, 67, 68, 97, 98] rfl (by decide +kernel)
set_option maxRecDepth 20000 in
theorem gX10_putOut_X1_addAll : GoodIn wsX10_putOut (wsV RX10 209 RX1 yX1_addAll wsX1_addAll) := goodIn_app (goodIn_of _ (by decide +kernel)) ggX10_putOut_X1_addAll
set_option maxRecDepth 20000 in
theorem ggX10_spell_X4_top : GoodIn wsX10_spell wsX4_top := goodIn_r _ [8, 9, 59, 60, 61, 62, 63, 64, 65, 66] rfl (by decide +kernel)
set_option maxRecDepth 20000 in
theorem gX10_spell_X4_top : GoodIn wsX10_spell (wsV RX10 138 RX4 yX4_top wsX4_top) := goodIn_app (goodIn_of _ (by decide +kernel)) ggX10_spell_X4_top
set_option maxRecDepth 20000 in
theorem ggX10_spell_X4_bottom : GoodIn wsX10_spell wsX4_bottom := goodIn_r _ [13, 14, 15, 16, 17, 18, 19, 5, 6, 7, 8, 9, 59, 60, 61, 62, 63, 64, 65, 66] rfl (by decide +kernel)
set_option maxRecDepth 20000 in
theorem gX10_spell_X4_bottom : GoodIn wsX10_spell (wsV RX10 254 RX4 yX4_bottom wsX4_bottom) := goodIn_app (goodIn_of _ (by decide +kernel)) ggX10_spell_X4_bottom
set_option maxRecDepth 20000 in
theorem ggX10_spell_X4_left : GoodIn wsX10_spell wsX4_left := goodIn_r _ [23, 9, 59, 60, 61, 62, 63, 64, 65, 66] rfl (by decide +kernel)
set_option maxRecDepth 20000 in
theorem gX10_spell_X4_left : GoodIn wsX10_spell (wsV RX10 135 RX4 yX4_left wsX4_left) := goodIn_app (goodIn_of _ (by decide +kernel)) ggX10_spell_X4_left
set_option maxRecDepth 20000 in
theorem ggX10_spell_X4_right : GoodIn wsX10_spell wsX4_right := goodIn_r _ [27, 28, 15, 16, 17, 18, 29, 21, 22, 7, 23, 9, 59, 60, 61, 62, 63, 64, 65, 66] rfl (by decide +kernel)
set_option maxRecDepth 20000 in
theorem gX10_spell_X4_right : GoodIn wsX10_spell (wsV RX10 257 RX4 yX4_right wsX4_right) := goodIn_app (goodIn_of _ (by decide +kernel)) ggX10_spell_X4_right
set_option maxRecDepth 20000 in
theorem ggX10_spell_X4_sample : GoodIn wsX10_spell wsX4_sample := goodIn_r _ [33, 34, 28, 35, 36, 37, 38, 39, 40, 41, 59, 60, 61, 62, 63, 64, 65, 66, 67] rfl (by decide +kernel)
set_option maxRecDepth 20000 in
theorem gX10_spell_X4_sample : GoodIn wsX10_spell (wsV RX10 112 RX4 yX4_sample wsX4_sample) := goodIn_app (goodIn_of _ (by decide +kernel)) ggX10_spell_X4_sample
set_option maxRecDepth 20000 in
theorem ggX10_spell_X1_add : GoodIn wsX10_spell wsX1_add := goodIn_r _ [46, 47, 48, 68, 69] rfl (by decide +kernel)
set_option maxRecDepth 20000 in
theorem gX10_spell_X1_add : GoodIn wsX10_spell (wsV RX10 206 RX1 yX1_add wsX1_add) := goodIn_app (goodIn_of _ (by decide +kernel)) ggX10_spell_X1_add
set_option maxRecDepth 20000 in
theorem ggX10_isGood_X1_get : GoodIn wsX10_isGood wsX1_get := goodIn_r _ [7, 8, 9, 66, 67] rfl (by decide +kernel)
set_option maxRecDepth 20000 in
theorem gX10_isGood_X1_get : GoodIn wsX10_isGood (wsV RX10 159 RX1 yX1_get wsX1_get) := goodIn_app (goodIn_of _ (by decide +kernel)) ggX10_isGood_X1_get
set_option maxRecDepth 20000 in
theorem ggX10_isGood_X10_following : GoodIn wsX10_isGood wsX10_following := goodIn_r _ [14, 1, 3, 4, 5, 6, 7, 8, 9, 56, 57, 58, 59, 60, 61, 62, 63, 64, 65, 66, 67] rfl (by decide +kernel)
set_option maxRecDepth 20000 in
theorem gX10_isGood_X10_following : GoodIn wsX10_isGood (wsV RX10 225 RX10 yX10_following wsX10_following) := goodIn_app (goodIn_of _ (by decide +kernel)) ggX10_isGood_X10_following
set_option maxRecDepth 20000 in
theorem ggX10_isGood_X1_count : GoodIn wsX10_isGood wsX1_count := goodIn_r _ [18, 8, 66, 67] rfl (by decide +kernel)
set_option maxRecDepth 20000 in
theorem gX10_isGood_X1_count : GoodIn wsX10_isGood (wsV RX10 151 RX1 yX1_count wsX1_count) := goodIn_app (goodIn_of _ (by decide +kernel)) ggX10_isGood_X1_count
set_option maxRecDepth 20000 in
theorem ggX10_isGood_X10_sum : GoodIn wsX10_isGood wsX10_sum := goodIn_r _ [21, 3, 4, 5, 6, 7, 8, 9, 66, 67] rfl (by decide +kernel)
set_option maxRecDepth 20000 in
theorem gX10_isGood_X10_sum : GoodIn wsX10_isGood (va_wsS RX10 250 yX10_sum wsX10_sum) := goodIn_app (goodIn_of _ (by decide +kernel)) ggX10_isGood_X10_sum
set_option maxRecDepth 20000 in
theorem ggX10_isGood_X4_countIn : GoodIn wsX10_isGood wsX4_countIn := goodIn_r _ [26, 27, 28, 29, 30, 25, 31, 32, 33, 34, 35, 36, 37, 38, 39, 40, 41, 42, 43, 44, 45, 46, 47, 48, 49, 50, 68, 69, 70, 71, 72, 73, 74, 75] rfl (by decide +kernel)
set_option maxRecDepth 20000 in
theorem gX10_isGood_X4_countIn : GoodIn wsX10_isGood (wsV RX10 243 RX4 yX4_countIn wsX4_countIn) := goodIn_app (goodIn_of _ (by decide +kernel)) ggX10_isGood_X4_countIn
set_option maxRecDepth 20000 in
theorem ggX10_isGood_X10_noneTooGreat : GoodIn wsX10_isGood wsX10_noneTooGreat := goodIn_r _ [54, 1, 2, 55, 3, 4, 5, 6, 7, 8, 9, 56, 57, 58, 59, 60, 61, 62, 63, 64, 65, 68, 69, 70, 71, 72, 73, 74, 75, 66, 67] rfl (by decide +kernel)
set_option maxRecDepth 20000 in
theorem gX10_isGood_X10_noneTooGreat : GoodIn wsX10_isGood (wsV RX10 260 RX10 yX10_noneTooGreat wsX10_noneTooGreat) := goodIn_app (goodIn_of _ (by decide +kernel)) ggX10_isGood_X10_noneTooGreat
set_option maxRecDepth 20000 in
theorem ggX10_noneTooGreat_X1_get : GoodIn wsX10_noneTooGreat wsX1_get := goodIn_r _ [8, 9, 10, 29, 30] rfl (by decide +kernel)
set_option maxRecDepth 20000 in
theorem gX10_noneTooGreat_X1_get : GoodIn wsX10_noneTooGreat (wsV RX10 159 RX1 yX1_get wsX1_get) := goodIn_app (goodIn_of _ (by decide +kernel)) ggX10_noneTooGreat_X1_get
set_option maxRecDepth 20000 in
theorem ggX10_takeAsItIs_X4_top : GoodIn wsX10_takeAsItIs wsX4_top := goodIn_r _ [8, 9, 67, 68, 69, 70, 71, 72, 73, 74] rfl (by decide +kernel)
set_option maxRecDepth 20000 in
theorem gX10_takeAsItIs_X4_top : GoodIn wsX10_takeAsItIs (wsV RX10 138 RX4 yX4_top wsX4_top) := goodIn_app (goodIn_of _ (by decide +kernel)) ggX10_takeAsItIs_X4_top
set_option maxRecDepth 20000 in
theorem ggX10_takeAsItIs_X4_bottom : GoodIn wsX10_takeAsItIs wsX4_bottom := goodIn_r _ [13, 14, 15, 16, 17, 18, 19, 5, 6, 7, 8, 9, 67, 68, 69, 70, 71, 72, 73, 74] rfl (by decide +kernel)
set_option maxRecDepth 20000 in
theorem gX10_takeAsItIs_X4_bottom : GoodIn wsX10_takeAsItIs (wsV RX10 254 RX4 yX4_bottom wsX4_bottom) := goodIn_app (goodIn_of _ (by decide +kernel)) ggX10_takeAsItIs_X4_bottom
set_option maxRecDepth 20000 in
theorem ggX10_takeAsItIs_X4_left : GoodIn wsX10_takeAsItIs wsX4_left := goodIn_r _ [23, 9, 67, 68, 69, 70, 71, 72, 73, 74] rfl (by decide +kernel)
set_option maxRecDepth 20000 in
theorem gX10_takeAsItIs_X4_left : GoodIn wsX10_takeAsItIs (wsV RX10 135 RX4 yX4_left wsX4_left) := goodIn_app (goodIn_of _ (by decide +kernel)) ggX10_takeAsItIs_X4_left
set_option maxRecDepth 20000 in
theorem ggX10_takeAsItIs_X4_right : GoodIn wsX10_takeAsItIs wsX4_right := goodIn_r _ [27, 28, 15, 16, 17, 18, 29, 21, 22, 7, 23, 9, 67, 68, 69, 70, 71, 72, 73, 74] rfl (by decide +kernel)
set_option maxRecDepth 20000 in
theorem gX10_takeAsItIs_X4_right : GoodIn wsX10_takeAsItIs (wsV RX10 257 RX4 yX4_right wsX4_right) := goodIn_app (goodIn_of _ (by decide +kernel)) ggX10_takeAsItIs_X4_right
set_option maxRecDepth 20000 in
theorem ggX10_takeAsItIs_X1_get : GoodIn wsX10_takeAsItIs wsX1_get := goodIn_r _ [34, 35, 36, 75, 76] rfl (by decide +kernel)
set_option maxRecDepth 20000 in
theorem gX10_takeAsItIs_X1_get : GoodIn wsX10_takeAsItIs (wsV RX10 159 RX1 yX1_get wsX1_get) := goodIn_app (goodIn_of _ (by decide +kernel)) ggX10_takeAsItIs_X1_get
set_option maxRecDepth 20000 in
theorem ggX10_takeAsItIs_X4_change : GoodIn wsX10_takeAsItIs wsX4_change := goodIn_r _ [40, 41, 28, 42, 43, 44, 45, 7, 46, 47, 48, 49, 50, 51, 52, 53, 54, 55, 56, 67, 68, 69, 70, 71, 72, 73, 74, 77] rfl (by decide +kernel)
set_option maxRecDepth 20000 in
theorem gX10_takeAsItIs_X4_change : GoodIn wsX10_takeAsItIs (wsV RX10 99 RX4 yX4_change wsX4_change) := goodIn_app (goodIn_of _ (by decide +kernel)) ggX10_takeAsItIs_X4_change
set_option maxRecDepth 20000 in
theorem ggX10_following_X1_get : GoodIn wsX10_following wsX1_get := goodIn_r _ [6, 7, 8, 19, 20] rfl (by decide +kernel)
set_option maxRecDepth 20000 in
theorem gX10_following_X1_get : GoodIn wsX10_following (wsV RX10 159 RX1 yX1_get wsX1_get) := goodIn_app (goodIn_of _ (by decide +kernel)) ggX10_following_X1_get
set_option maxRecDepth 20000 in
theorem ggX10_sum_X1_get : GoodIn wsX10_sum wsX1_get := goodIn_r _ [5, 6, 7, 8, 9] rfl (by decide +kernel)
set_option maxRecDepth 20000 in
theorem gX10_sum_X1_get : GoodIn wsX10_sum (wsV RX10 159 RX1 yX1_get wsX1_get) := goodIn_app (goodIn_of _ (by decide +kernel)) ggX10_sum_X1_get
set_option maxRecDepth 20000 in
theorem ggX11_init_X11_nearest : GoodIn wsX11_init wsX11_nearest := goodIn_r _ [30] rfl (by decide +kernel)
set_option maxRecDepth 20000 in
theorem gX11_init_X11_nearest : GoodIn wsX11_init (va_wsS RX11 56 yX11_nearest wsX11_nearest) := goodIn_app (goodIn_of _ (by decide +kernel)) ggX11_init_X11_nearest
set_option maxRecDepth 20000 in
theorem ggX11_init_X11_keepNew : GoodIn wsX11_init wsX11_keepNew := goodIn_r _ [34, 17, 35, 36, 37, 38, 39, 29, 40, 6, 7, 41, 8, 9, 10, 42, 43, 44, 45, 11, 12, 13, 14, 46, 47, 48, 49, 50, 51, 52, 53, 54, 55, 56, 57, 58, 59, 60, 61, 62, 63, 64, 65, 66, 67, 68, 69, 70, 71, 72, 73, 74, 75, 76, 77] rfl (by decide +kernel)
set_option maxRecDepth 20000 in
theorem gX11_init_X11_keepNew : GoodIn wsX11_init (wsV RX11 79 RX11 yX11_keepNew wsX11_keepNew) := goodIn_app (goodIn_of _ (by decide +kernel)) ggX11_init_X11_keepNew
set_option maxRecDepth 20000 in
theorem ggX11_keepNew_X11_begin : GoodIn wsX11_keepNew wsX11_begin := goodIn_r _ [8, 9, 10, 11, 12, 13, 14, 23, 24, 25, 26, 27, 28, 29, 30, 31, 32, 33, 34, 35, 36, 37, 38, 39, 40, 41, 42, 43, 44, 45, 46, 47, 48, 49, 50, 51, 52, 53, 54] rfl (by decide +kernel)
set_option maxRecDepth 20000 in
theorem gX11_keepNew_X11_begin : GoodIn wsX11_keepNew (wsV RX11 85 RX11 yX11_begin wsX11_begin) := goodIn_app (goodIn_of _ (by decide +kernel)) ggX11_keepNew_X11_begin
set_option maxRecDepth 20000 in
theorem ggX11_keepNew_X11_keep : GoodIn wsX11_keepNew wsX11_keep := goodIn_r _ [18, 19, 9, 20, 10, 21, 12, 22, 13, 23, 24, 25, 26, 27, 28, 29, 30, 31, 32, 33, 34, 35, 36, 37, 38, 39, 40, 41, 42, 43, 44, 45, 46, 47, 48, 49, 50, 51, 52, 53, 54] rfl (by decide +kernel)
set_option maxRecDepth 20000 in
theorem gX11_keepNew_X11_keep : GoodIn wsX11_keepNew (wsV RX11 88 RX11 yX11_keep wsX11_keep) := goodIn_app (goodIn_of _ (by decide +kernel)) ggX11_keepNew_X11_keep
set_option maxRecDepth 20000 in
theorem ggX11_clear_X11_keepNew : GoodIn wsX11_clear wsX11_keepNew := goodIn_r _ [7, 8, 9, 10, 11, 12, 13, 6, 14, 15, 16, 17, 18, 19, 20, 21, 22, 23, 24, 25, 26, 27, 28, 29, 30, 31, 32, 33, 34, 35, 36, 37, 38, 39, 40, 41, 42, 43, 44, 45, 46, 47, 48, 49, 50, 51, 52, 53, 54, 55, 56, 57, 58, 59, 60] rfl (by decide +kernel)
set_option maxRecDepth 20000 in
theorem gX11_clear_X11_keepNew : GoodIn wsX11_clear (wsV RX11 79 RX11 yX11_keepNew wsX11_keepNew) := goodIn_app (goodIn_of _ (by decide +kernel)) ggX11_clear_X11_keepNew
set_option maxRecDepth 20000 in
theorem ggX11_isPlace_X11_in : GoodIn wsX11_isPlace wsX11_in := goodIn_r _ [7] rfl (by decide +kernel)
set_option maxRecDepth 20000 in
theorem gX11_isPlace_X11_in : GoodIn wsX11_isPlace (va_wsS RX11 97 yX11_in wsX11_in) := goodIn_app (goodIn_of _ (by decide +kernel)) ggX11_isPlace_X11_in
set_option maxRecDepth 20000 in
theorem ggX11_put_X11_isPlace : GoodIn wsX11_put wsX11_isPlace := goodIn_r _ [8, 9, 10, 11, 12, 13, 7, 14, 18, 19, 20, 21, 22, 23, 24, 25, 26, 27, 28, 29, 30, 31, 32, 33, 34, 35, 36, 37, 38, 39, 40, 41, 42, 43, 44, 45, 46, 47, 48, 49] rfl (by decide +kernel)
set_option maxRecDepth 20000 in
theorem gX11_put_X11_isPlace : GoodIn wsX11_put (wsV RX11 101 RX11 yX11_isPlace wsX11_isPlace) := goodIn_app (goodIn_of _ (by decide +kernel)) ggX11_put_X11_isPlace
set_option maxRecDepth 20000 in
theorem ggX11_put_X11_in : GoodIn wsX11_put wsX11_in := goodIn_r _ [14] rfl (by decide +kernel)
set_option maxRecDepth 20000 in
theorem gX11_put_X11_in : GoodIn wsX11_put (va_wsS RX11 97 yX11_in wsX11_in) := goodIn_app (goodIn_of _ (by decide +kernel)) ggX11_put_X11_in
set_option maxRecDepth 20000 in
theorem ggX11_put_X11_spot : GoodIn wsX11_put wsX11_spot := goodIn_r _ [17] rfl (by decide +kernel)
set_option maxRecDepth 20000 in
theorem gX11_put_X11_spot : GoodIn wsX11_put (va_wsS RX11 104 yX11_spot wsX11_spot) := goodIn_app (goodIn_of _ (by decide +kernel)) ggX11_put_X11_spot
set_option maxRecDepth 20000 in
theorem ggX11_paint_X11_spot : GoodIn wsX11_paint wsX11_spot := goodIn_r _ [10] rfl (by decide +kernel)
set_option maxRecDepth 20000 in
theorem gX11_paint_X11_spot : GoodIn wsX11_paint (va_wsS RX11 104 yX11_spot wsX11_spot) := goodIn_app (goodIn_of _ (by decide +kernel)) ggX11_paint_X11_spot
set_option maxRecDepth 20000 in
theorem ggX11_at_X11_isPlace : GoodIn wsX11_at wsX11_isPlace := goodIn_r _ [7, 8, 9, 10, 11, 12, 6, 13, 17, 18, 19, 20, 21, 22, 23, 24, 25, 26, 27, 28, 29, 30, 31, 32, 33, 34, 35, 36, 37, 38, 39, 40, 41, 42, 43, 44, 45, 46, 47, 48] rfl (by decide +kernel)
set_option maxRecDepth 20000 in
theorem gX11_at_X11_isPlace : GoodIn wsX11_at (wsV RX11 101 RX11 yX11_isPlace wsX11_isPlace) := goodIn_app (goodIn_of _ (by decide +kernel)) ggX11_at_X11_isPlace
set_option maxRecDepth 20000 in
theorem ggX11_at_X11_spot : GoodIn wsX11_at wsX11_spot := goodIn_r _ [16] rfl (by decide +kernel)
set_option maxRecDepth 20000 in
theorem gX11_at_X11_spot : GoodIn wsX11_at (va_wsS RX11 104 yX11_spot wsX11_spot) := goodIn_app (goodIn_of _ (by decide +kernel)) ggX11_at_X11_spot
set_option maxRecDepth 20000 in
theorem ggX11_near_X11_spot : GoodIn wsX11_near wsX11_spot := goodIn_r _ [8] rfl (by decide +kernel)
set_option maxRecDepth 20000 in
theorem gX11_near_X11_spot : GoodIn wsX11_near (va_wsS RX11 104 yX11_spot wsX11_spot) := goodIn_app (goodIn_of _ (by decide +kernel)) ggX11_near_X11_spot
set_option maxRecDepth 20000 in
theorem ggX11_expect_X11_near : GoodIn wsX11_expect wsX11_near := goodIn_r _ [8, 9, 10, 2, 1, 11, 12, 7, 13, 17, 18, 19, 20, 21, 22, 23, 24, 25, 26, 27, 28, 29, 30, 31, 32, 33, 34, 35, 36, 37, 38, 39, 40, 41, 42, 43, 44, 45, 46, 47, 48] rfl (by decide +kernel)
set_option maxRecDepth 20000 in
theorem gX11_expect_X11_near : GoodIn wsX11_expect (wsV RX11 108 RX11 yX11_near wsX11_near) := goodIn_app (goodIn_of _ (by decide +kernel)) ggX11_expect_X11_near
set_option maxRecDepth 20000 in
theorem ggX11_expect_X11_halfOf : GoodIn wsX11_expect wsX11_halfOf := goodIn_r _ [16] rfl (by decide +kernel)
set_option maxRecDepth 20000 in
theorem gX11_expect_X11_halfOf : GoodIn wsX11_expect (va_wsS RX11 112 yX11_halfOf wsX11_halfOf) := goodIn_app (goodIn_of _ (by decide +kernel)) ggX11_expect_X11_halfOf
set_option maxRecDepth 20000 in
theorem ggX11_expect_X11_spot : GoodIn wsX11_expect wsX11_spot := goodIn_r _ [13] rfl (by decide +kernel)
set_option maxRecDepth 20000 in
theorem gX11_expect_X11_spot : GoodIn wsX11_expect (va_wsS RX11 104 yX11_spot wsX11_spot) := goodIn_app (goodIn_of _ (by decide +kernel)) ggX11_expect_X11_spot
set_option maxRecDepth 20000 in
theorem ggX11_predicted_X11_isPlace : GoodIn wsX11_predicted wsX11_isPlace := goodIn_r _ [6, 7, 8, 9, 10, 11, 5, 12, 30, 31, 32, 33, 34, 35, 36, 37, 38, 39, 40, 41, 42, 43, 44, 45, 46, 47, 48, 49, 50, 51, 52, 53, 54, 55, 56, 57, 58, 59, 60, 61] rfl (by decide +kernel)
set_option maxRecDepth 20000 in
theorem gX11_predicted_X11_isPlace : GoodIn wsX11_predicted (wsV RX11 101 RX11 yX11_isPlace wsX11_isPlace) := goodIn_app (goodIn_of _ (by decide +kernel)) ggX11_predicted_X11_isPlace
set_option maxRecDepth 20000 in
theorem ggX11_predicted_X11_in : GoodIn wsX11_predicted wsX11_in := goodIn_r _ [12] rfl (by decide +kernel)
set_option maxRecDepth 20000 in
theorem gX11_predicted_X11_in : GoodIn wsX11_predicted (va_wsS RX11 97 yX11_in wsX11_in) := goodIn_app (goodIn_of _ (by decide +kernel)) ggX11_predicted_X11_in
set_option maxRecDepth 20000 in
theorem ggX11_predicted_X11_expect : GoodIn wsX11_predicted wsX11_expect := goodIn_r _ [16, 17, 18, 19, 20, 21, 22, 5, 23, 7, 8, 24, 25, 26, 27, 28, 29, 30, 31, 32, 33, 34, 35, 36, 37, 38, 39, 40, 41, 42, 43, 44, 45, 46, 47, 48, 49, 50, 51, 52, 53, 54, 55, 56, 57, 58, 59, 60, 61] rfl (by decide +kernel)
set_option maxRecDepth 20000 in
theorem gX11_predicted_X11_expect : GoodIn wsX11_predicted (wsV RX11 116 RX11 yX11_expect wsX11_expect) := goodIn_app (goodIn_of _ (by decide +kernel)) ggX11_predicted_X11_expect
set_option maxRecDepth 20000 in
theorem ggX11_mix_X11_expect : GoodIn wsX11_mix wsX11_expect := goodIn_r _ [8, 9, 10, 11, 12, 13, 14, 7, 15, 16, 17, 18, 19, 20, 21, 22, 23, 24, 25, 26, 27, 28, 29, 30, 31, 32, 33, 34, 35, 36, 37, 38, 39, 40, 41, 42, 43, 44, 45, 46, 47, 48, 49, 50, 51, 52, 53, 54, 55] rfl (by decide +kernel)
set_option maxRecDepth 20000 in
theorem gX11_mix_X11_expect : GoodIn wsX11_mix (wsV RX11 116 RX11 yX11_expect wsX11_expect) := goodIn_app (goodIn_of _ (by decide +kernel)) ggX11_mix_X11_expect
set_option maxRecDepth 20000 in
theorem ggX11_narrow_X11_putOut : GoodIn wsX11_narrow wsX11_putOut := goodIn_r _ [11, 12, 13, 21, 22, 23, 24, 25, 26, 27, 28, 29, 30, 31, 32, 33, 34, 35, 36, 37, 38, 39, 40, 41, 42, 43, 44, 45, 46, 47, 48, 49, 50, 51, 52] rfl (by decide +kernel)
set_option maxRecDepth 20000 in
theorem gX11_narrow_X11_putOut : GoodIn wsX11_narrow (wsV RX11 144 RX11 yX11_putOut wsX11_putOut) := goodIn_app (goodIn_of _ (by decide +kernel)) ggX11_narrow_X11_putOut
set_option maxRecDepth 20000 in
theorem ggX11_narrow_X11_nextByte : GoodIn wsX11_narrow wsX11_nextByte := goodIn_r _ [17, 18, 19, 20, 21, 22, 23, 24, 25, 26, 27, 28, 29, 30, 31, 32, 33, 34, 35, 36, 37, 38, 39, 40, 41, 42, 43, 44, 45, 46, 47, 48, 49, 50, 51, 52] rfl (by decide +kernel)
set_option maxRecDepth 20000 in
theorem gX11_narrow_X11_nextByte : GoodIn wsX11_narrow (wsV RX11 153 RX11 yX11_nextByte wsX11_nextByte) := goodIn_app (goodIn_of _ (by decide +kernel)) ggX11_narrow_X11_nextByte
set_option maxRecDepth 20000 in
theorem ggX11_bit_X11_narrow : GoodIn wsX11_bit wsX11_narrow := goodIn_r _ [15, 5, 6, 8, 9, 16, 17, 18, 19, 20, 14, 21, 22, 23, 24, 25, 26, 27, 28, 29, 30, 31, 32, 33, 34, 35, 36, 37, 38, 39, 40, 41, 42, 43, 44, 45, 46, 47, 48, 49, 50, 51, 52, 53, 54, 55, 56, 57, 58, 59, 60, 61, 62] rfl (by decide +kernel)
set_option maxRecDepth 20000 in
theorem gX11_bit_X11_narrow : GoodIn wsX11_bit (wsV RX11 162 RX11 yX11_narrow wsX11_narrow) := goodIn_app (goodIn_of _ (by decide +kernel)) ggX11_bit_X11_narrow
set_option maxRecDepth 20000 in
theorem ggX11_sample_X11_mix : GoodIn wsX11_sample wsX11_mix := goodIn_r _ [11, 12, 13, 2, 14, 15, 16, 10, 17, 4, 1, 3, 18, 19, 20, 21, 22, 23, 24, 25, 26, 27, 28, 29, 73, 74, 75, 76, 77, 78, 79, 80, 81, 82, 83, 84, 85, 86, 87, 88, 89, 90, 91, 92, 93, 94, 95, 96, 97, 98, 99, 100, 101, 102, 103, 104] rfl (by decide +kernel)
set_option maxRecDepth 20000 in
theorem gX11_sample_X11_mix : GoodIn wsX11_sample (wsV RX11 166 RX11 yX11_mix wsX11_mix) := goodIn_app (goodIn_of _ (by decide +kernel)) ggX11_sample_X11_mix
set_option maxRecDepth 20000 in
theorem ggX11_sample_X11_spot : GoodIn wsX11_sample wsX11_spot := goodIn_r _ [26] rfl (by decide +kernel)
set_option maxRecDepth 20000 in
theorem gX11_sample_X11_spot : GoodIn wsX11_sample (va_wsS RX11 104 yX11_spot wsX11_spot) := goodIn_app (goodIn_of _ (by decide +kernel)) ggX11_sample_X11_spot
set_option maxRecDepth 20000 in
theorem ggX11_sample_X11_near : GoodIn wsX11_sample wsX11_near := goodIn_r _ [21, 22, 23, 1, 4, 24, 25, 10, 26, 73, 74, 75, 76, 77, 78, 79, 80, 81, 82, 83, 84, 85, 86, 87, 88, 89, 90, 91, 92, 93, 94, 95, 96, 97, 98, 99, 100, 101, 102, 103, 104] rfl (by decide +kernel)
set_option maxRecDepth 20000 in
theorem gX11_sample_X11_near : GoodIn wsX11_sample (wsV RX11 108 RX11 yX11_near wsX11_near) := goodIn_app (goodIn_of _ (by decide +kernel)) ggX11_sample_X11_near
set_option maxRecDepth 20000 in
theorem ggX11_sample_X11_off : GoodIn wsX11_sample wsX11_off := goodIn_r _ [32] rfl (by decide +kernel)
set_option maxRecDepth 20000 in
theorem gX11_sample_X11_off : GoodIn wsX11_sample (va_wsS RX11 170 yX11_off wsX11_off) := goodIn_app (goodIn_of _ (by decide +kernel)) ggX11_sample_X11_off
set_option maxRecDepth 20000 in
theorem ggX11_sample_X11_lesser : GoodIn wsX11_sample wsX11_lesser := goodIn_r _ [35] rfl (by decide +kernel)
set_option maxRecDepth 20000 in
theorem gX11_sample_X11_lesser : GoodIn wsX11_sample (va_wsS RX11 173 yX11_lesser wsX11_lesser) := goodIn_app (goodIn_of _ (by decide +kernel)) ggX11_sample_X11_lesser
set_option maxRecDepth 20000 in
theorem ggX11_sample_X11_bit : GoodIn wsX11_sample wsX11_bit := goodIn_r _ [39, 40, 41, 42, 43, 44, 45, 46, 47, 48, 49, 50, 51, 52, 10, 53, 54, 55, 56, 57, 58, 59, 60, 61, 62, 63, 64, 65, 66, 67, 68, 73, 74, 75, 76, 77, 78, 79, 80, 81, 82, 83, 84, 85, 86, 87, 88, 89, 90, 91, 92, 93, 94, 95, 96, 97, 98, 99, 100, 101, 102, 103, 104] rfl (by decide +kernel)
set_option maxRecDepth 20000 in
theorem gX11_sample_X11_bit : GoodIn wsX11_sample (wsV RX11 176 RX11 yX11_bit wsX11_bit) := goodIn_app (goodIn_of _ (by decide +kernel)) ggX11_sample_X11_bit
set_option maxRecDepth 20000 in
theorem ggX11_sample_X11_learn : GoodIn wsX11_sample wsX11_learn := goodIn_r _ [72, 2, 12, 13, 73, 74, 75, 76, 77, 78, 79, 80, 81, 82, 83, 84, 85, 86, 87, 88, 89, 90, 91, 92, 93, 94, 95, 96, 97, 98, 99, 100, 101, 102, 103, 104] rfl (by decide +kernel)
set_option maxRecDepth 20000 in
theorem gX11_sample_X11_learn : GoodIn wsX11_sample (wsV RX11 179 RX11 yX11_learn wsX11_learn) := goodIn_app (goodIn_of _ (by decide +kernel)) ggX11_sample_X11_learn
set_option maxRecDepth 20000 in
theorem ggX11_tiles_X11_across : GoodIn wsX11_tiles wsX11_across := goodIn_r _ [6, 7, 8, 9, 10, 11, 12, 13, 14, 15, 16, 17, 18, 19, 20, 21, 22, 23, 24, 25, 26, 27, 28, 29, 30, 31, 32, 33, 34, 35, 36, 37, 38, 39] rfl (by decide +kernel)
set_option maxRecDepth 20000 in
theorem gX11_tiles_X11_across : GoodIn wsX11_tiles (wsV RX11 182 RX11 yX11_across wsX11_across) := goodIn_app (goodIn_of _ (by decide +kernel)) ggX11_tiles_X11_across
set_option maxRecDepth 20000 in
theorem ggX11_rightOf_X11_across : GoodIn wsX11_rightOf wsX11_across := goodIn_r _ [6, 1, 10, 11, 12, 13, 14, 15, 16, 17, 18, 19, 20, 21, 22, 23, 24, 25, 26, 27, 28, 29, 30, 31, 32, 33, 34, 35, 36, 37, 38, 39, 40, 41] rfl (by decide +kernel)
set_option maxRecDepth 20000 in
theorem gX11_rightOf_X11_across : GoodIn wsX11_rightOf (wsV RX11 182 RX11 yX11_across wsX11_across) := goodIn_app (goodIn_of _ (by decide +kernel)) ggX11_rightOf_X11_across
set_option maxRecDepth 20000 in
theorem ggX11_rightOf_X11_lesser : GoodIn wsX11_rightOf wsX11_lesser := goodIn_r _ [9] rfl (by decide +kernel)
set_option maxRecDepth 20000 in
theorem gX11_rightOf_X11_lesser : GoodIn wsX11_rightOf (va_wsS RX11 173 yX11_lesser wsX11_lesser) := goodIn_app (goodIn_of _ (by decide +kernel)) ggX11_rightOf_X11_lesser
set_option maxRecDepth 20000 in
theorem ggX11_lowerOf_X11_across : GoodIn wsX11_lowerOf wsX11_across := goodIn_r _ [6, 7, 11, 12, 13, 14, 15, 16, 17, 18, 19, 20, 21, 22, 23, 24, 25, 26, 27, 28, 29, 30, 31, 32, 33, 34, 35, 36, 37, 38, 39, 40, 41, 42] rfl (by decide +kernel)
set_option maxRecDepth 20000 in
theorem gX11_lowerOf_X11_across : GoodIn wsX11_lowerOf (wsV RX11 182 RX11 yX11_across wsX11_across) := goodIn_app (goodIn_of _ (by decide +kernel)) ggX11_lowerOf_X11_across
set_option maxRecDepth 20000 in
theorem ggX11_lowerOf_X11_lesser : GoodIn wsX11_lowerOf wsX11_lesser := goodIn_r _ [10] rfl (by decide +kernel)
set_option maxRecDepth 20000 in
theorem gX11_lowerOf_X11_lesser : GoodIn wsX11_lowerOf (va_wsS RX11 173 yX11_lesser wsX11_lesser) := goodIn_app (goodIn_of _ (by decide +kernel)) ggX11_lowerOf_X11_lesser
set_option maxRecDepth 20000 in
theorem ggX11_samplesOf_X11_rightOf : GoodIn wsX11_samplesOf wsX11_rightOf := goodIn_r _ [6, 7, 8, 9, 10, 5, 11, 12, 13, 14, 20, 21, 22, 23, 24, 25, 26, 27, 28, 29, 30, 31, 32, 33, 34, 35, 36, 37, 38, 39, 40, 41, 42, 43, 44, 45, 46, 47, 48, 49, 50, 51] rfl (by decide +kernel)
set_option maxRecDepth 20000 in
theorem gX11_samplesOf_X11_rightOf : GoodIn wsX11_samplesOf (wsV RX11 185 RX11 yX11_rightOf wsX11_rightOf) := goodIn_app (goodIn_of _ (by decide +kernel)) ggX11_samplesOf_X11_rightOf
set_option maxRecDepth 20000 in
theorem ggX11_samplesOf_X11_across : GoodIn wsX11_samplesOf wsX11_across := goodIn_r _ [11, 7, 20, 21, 22, 23, 24, 25, 26, 27, 28, 29, 30, 31, 32, 33, 34, 35, 36, 37, 38, 39, 40, 41, 42, 43, 44, 45, 46, 47, 48, 49, 50, 51] rfl (by decide +kernel)
set_option maxRecDepth 20000 in
theorem gX11_samplesOf_X11_across : GoodIn wsX11_samplesOf (wsV RX11 182 RX11 yX11_across wsX11_across) := goodIn_app (goodIn_of _ (by decide +kernel)) ggX11_samplesOf_X11_across
set_option maxRecDepth 20000 in
theorem ggX11_samplesOf_X11_lowerOf : GoodIn wsX11_samplesOf wsX11_lowerOf := goodIn_r _ [18, 19, 8, 9, 10, 5, 11, 7, 12, 13, 14, 20, 21, 22, 23, 24, 25, 26, 27, 28, 29, 30, 31, 32, 33, 34, 35, 36, 37, 38, 39, 40, 41, 42, 43, 44, 45, 46, 47, 48, 49, 50, 51] rfl (by decide +kernel)
set_option maxRecDepth 20000 in
theorem gX11_samplesOf_X11_lowerOf : GoodIn wsX11_samplesOf (wsV RX11 188 RX11 yX11_lowerOf wsX11_lowerOf) := goodIn_app (goodIn_of _ (by decide +kernel)) ggX11_samplesOf_X11_lowerOf
set_option maxRecDepth 20000 in
theorem ggX11_walk_X11_begin : GoodIn wsX11_walk wsX11_begin := goodIn_r _ [9, 10, 11, 12, 13, 14, 15, 95, 96, 97, 98, 99, 100, 101, 102, 103, 104, 105, 106, 107, 108, 109, 110, 111, 112, 113, 114, 115, 116, 117, 118, 119, 120, 121, 122, 123, 124, 125, 126] rfl (by decide +kernel)
set_option maxRecDepth 20000 in
theorem gX11_walk_X11_begin : GoodIn wsX11_walk (wsV RX11 85 RX11 yX11_begin wsX11_begin) := goodIn_app (goodIn_of _ (by decide +kernel)) ggX11_walk_X11_begin
set_option maxRecDepth 20000 in
theorem ggX11_walk_X11_across : GoodIn wsX11_walk wsX11_across := goodIn_r _ [19, 20, 95, 96, 97, 98, 99, 100, 101, 102, 103, 104, 105, 106, 107, 108, 109, 110, 111, 112, 113, 114, 115, 116, 117, 118, 119, 120, 121, 122, 123, 124, 125, 126] rfl (by decide +kernel)
set_option maxRecDepth 20000 in
theorem gX11_walk_X11_across : GoodIn wsX11_walk (wsV RX11 182 RX11 yX11_across wsX11_across) := goodIn_app (goodIn_of _ (by decide +kernel)) ggX11_walk_X11_across
set_option maxRecDepth 20000 in
theorem ggX11_walk_X11_lowerOf : GoodIn wsX11_walk wsX11_lowerOf := goodIn_r _ [24, 25, 16, 17, 18, 8, 19, 20, 26, 27, 28, 95, 96, 97, 98, 99, 100, 101, 102, 103, 104, 105, 106, 107, 108, 109, 110, 111, 112, 113, 114, 115, 116, 117, 118, 119, 120, 121, 122, 123, 124, 125, 126] rfl (by decide +kernel)
set_option maxRecDepth 20000 in
theorem gX11_walk_X11_lowerOf : GoodIn wsX11_walk (wsV RX11 188 RX11 yX11_lowerOf wsX11_lowerOf) := goodIn_app (goodIn_of _ (by decide +kernel)) ggX11_walk_X11_lowerOf
set_option maxRecDepth 20000 in
theorem ggX11_walk_X11_rightOf : GoodIn wsX11_walk wsX11_rightOf := goodIn_r _ [32, 20, 16, 17, 18, 8, 19, 26, 27, 28, 95, 96, 97, 98, 99, 100, 101, 102, 103, 104, 105, 106, 107, 108, 109, 110, 111, 112, 113, 114, 115, 116, 117, 118, 119, 120, 121, 122, 123, 124, 125, 126] rfl (by decide +kernel)
set_option maxRecDepth 20000 in
theorem gX11_walk_X11_rightOf : GoodIn wsX11_walk (wsV RX11 185 RX11 yX11_rightOf wsX11_rightOf) := goodIn_app (goodIn_of _ (by decide +kernel)) ggX11_walk_X11_rightOf
set_option maxRecDepth 20000 in
theorem ggX11_walk_X11_sample : GoodIn wsX11_walk wsX11_sample := goodIn_r _ [36, 37, 38, 39, 40, 15, 41, 42, 43, 44, 8, 45, 46, 10, 47, 48, 49, 50, 51, 52, 53, 54, 20, 25, 55, 56, 57, 58, 59, 60, 61, 62, 63, 26, 27, 28, 64, 65, 66, 67, 11, 14, 13, 68, 1, 3, 69, 70, 71, 72, 73, 74, 75, 76, 2, 77, 78, 79, 80, 81, 82, 83, 84, 85, 86, 87, 88, 89, 90, 91, 92, 93, 94, 95, 96, 97, 98, 99, 100, 101, 102, 103, 104, 105, 106, 107, 108, 109, 110, 111, 112, 113, 114, 115, 116, 117, 118, 119, 120, 121, 122, 123, 124, 125, 126] rfl (by decide +kernel)
set_option maxRecDepth 20000 in
theorem gX11_walk_X11_sample : GoodIn wsX11_walk (wsV RX11 191 RX11 yX11_sample wsX11_sample) := goodIn_app (goodIn_of _ (by decide +kernel)) ggX11_walk_X11_sample
set_option maxRecDepth 20000 in
theorem ggX11_plainBytes_X11_across : GoodIn wsX11_plainBytes wsX11_across := goodIn_r _ [8, 9, 30, 31, 32, 33, 34, 35, 36, 37, 38, 39, 40, 41, 42, 43, 44, 45, 46, 47, 48, 49, 50, 51, 52, 53, 54, 55, 56, 57, 58, 59, 60, 61] rfl (by decide +kernel)
set_option maxRecDepth 20000 in
theorem gX11_plainBytes_X11_across : GoodIn wsX11_plainBytes (wsV RX11 182 RX11 yX11_across wsX11_across) := goodIn_app (goodIn_of _ (by decide +kernel)) ggX11_plainBytes_X11_across
set_option maxRecDepth 20000 in
theorem ggX11_plainBytes_X11_lowerOf : GoodIn wsX11_plainBytes wsX11_lowerOf := goodIn_r _ [13, 14, 4, 5, 6, 7, 8, 9, 15, 16, 17, 30, 31, 32, 33, 34, 35, 36, 37, 38, 39, 40, 41, 42, 43, 44, 45, 46, 47, 48, 49, 50, 51, 52, 53, 54, 55, 56, 57, 58, 59, 60, 61] rfl (by decide +kernel)
set_option maxRecDepth 20000 in
theorem gX11_plainBytes_X11_lowerOf : GoodIn wsX11_plainBytes (wsV RX11 188 RX11 yX11_lowerOf wsX11_lowerOf) := goodIn_app (goodIn_of _ (by decide +kernel)) ggX11_plainBytes_X11_lowerOf
set_option maxRecDepth 20000 in
theorem ggX11_plainBytes_X11_rightOf : GoodIn wsX11_plainBytes wsX11_rightOf := goodIn_r _ [21, 9, 4, 5, 6, 7, 8, 15, 16, 17, 30, 31, 32, 33, 34, 35, 36, 37, 38, 39, 40, 41, 42, 43, 44, 45, 46, 47, 48, 49, 50, 51, 52, 53, 54, 55, 56, 57, 58, 59, 60, 61] rfl (by decide +kernel)
set_option maxRecDepth 20000 in
theorem gX11_plainBytes_X11_rightOf : GoodIn wsX11_plainBytes (wsV RX11 185 RX11 yX11_rightOf wsX11_rightOf) := goodIn_app (goodIn_of _ (by decide +kernel)) ggX11_plainBytes_X11_rightOf
set_option maxRecDepth 20000 in
theorem ggX11_plainBytes_X11_spot : GoodIn wsX11_plainBytes wsX11_spot := goodIn_r _ [24] rfl (by decide +kernel)
set_option maxRecDepth 20000 in
theorem gX11_plainBytes_X11_spot : GoodIn wsX11_plainBytes (va_wsS RX11 104 yX11_spot wsX11_spot) := goodIn_app (goodIn_of _ (by decide +kernel)) ggX11_plainBytes_X11_spot
set_option maxRecDepth 20000 in
theorem ggX11_plainBytes_X11_putOut : GoodIn wsX11_plainBytes wsX11_putOut := goodIn_r _ [28, 29, 1, 30, 31, 32, 33, 34, 35, 36, 37, 38, 39, 40, 41, 42, 43, 44, 45, 46, 47, 48, 49, 50, 51, 52, 53, 54, 55, 56, 57, 58, 59, 60, 61] rfl (by decide +kernel)
set_option maxRecDepth 20000 in
theorem gX11_plainBytes_X11_putOut : GoodIn wsX11_plainBytes (wsV RX11 144 RX11 yX11_putOut wsX11_putOut) := goodIn_app (goodIn_of _ (by decide +kernel)) ggX11_plainBytes_X11_putOut
set_option maxRecDepth 20000 in
theorem ggX11_encode_X11_tiles : GoodIn wsX11_encode wsX11_tiles := goodIn_r _ [15, 16, 17, 18, 19, 14, 20, 21, 128, 129, 130, 131, 132, 133, 134, 135, 136, 137, 138, 139, 140, 141, 142, 143, 144, 145, 146, 147, 148, 149, 150, 151, 152, 153, 154, 155, 156, 157, 158, 159] rfl (by decide +kernel)
set_option maxRecDepth 20000 in
theorem gX11_encode_X11_tiles : GoodIn wsX11_encode (wsV RX11 194 RX11 yX11_tiles wsX11_tiles) := goodIn_app (goodIn_of _ (by decide +kernel)) ggX11_encode_X11_tiles
set_option maxRecDepth 20000 in
theorem ggX11_encode_X11_walk : GoodIn wsX11_encode wsX11_walk := goodIn_r _ [25, 5, 7, 26, 27, 28, 29, 30, 14, 31, 32, 33, 34, 35, 36, 37, 17, 18, 19, 20, 21, 38, 39, 40, 41, 16, 42, 43, 44, 45, 46, 47, 48, 49, 50, 51, 52, 53, 54, 55, 56, 57, 58, 59, 60, 61, 62, 63, 64, 65, 66, 67, 68, 69, 70, 71, 72, 73, 74, 75, 76, 77, 78, 79, 80, 81, 82, 83, 84, 85, 3, 86, 87, 88, 89, 90, 91, 8, 92, 93, 94, 95, 10, 4, 96, 97, 98, 99, 100, 101, 102, 103, 104, 105, 106, 128, 129, 130, 131, 132, 133, 134, 135, 136, 137, 138, 139, 140, 141, 142, 143, 144, 145, 146, 147, 148, 149, 150, 151, 152, 153, 154, 155, 156, 157, 158, 159] rfl (by decide +kernel)
set_option maxRecDepth 20000 in
theorem gX11_encode_X11_walk : GoodIn wsX11_encode (wsV RX11 197 RX11 yX11_walk wsX11_walk) := goodIn_app (goodIn_of _ (by decide +kernel)) ggX11_encode_X11_walk
set_option maxRecDepth 20000 in
theorem ggX11_encode_X11_putOut : GoodIn wsX11_encode wsX11_putOut := goodIn_r _ [95, 10, 4, 128, 129, 130, 131, 132, 133, 134, 135, 136, 137, 138, 139, 140, 141, 142, 143, 144, 145, 146, 147, 148, 149, 150, 151, 152, 153, 154, 155, 156, 157, 158, 159] rfl (by decide +kernel)
set_option maxRecDepth 20000 in
theorem gX11_encode_X11_putOut : GoodIn wsX11_encode (wsV RX11 144 RX11 yX11_putOut wsX11_putOut) := goodIn_app (goodIn_of _ (by decide +kernel)) ggX11_encode_X11_putOut
set_option maxRecDepth 20000 in
theorem ggX11_encode_X11_samplesOf : GoodIn wsX11_encode wsX11_samplesOf := goodIn_r _ [110, 27, 45, 46, 47, 14, 48, 21, 17, 18, 19, 20, 42, 43, 44, 38, 39, 40, 41, 16, 128, 129, 130, 131, 132, 133, 134, 135, 136, 137, 138, 139, 140, 141, 142, 143, 144, 145, 146, 147, 148, 149, 150, 151, 152, 153, 154, 155, 156, 157, 158, 159] rfl (by decide +kernel)
set_option maxRecDepth 20000 in
theorem gX11_encode_X11_samplesOf : GoodIn wsX11_encode (wsV RX11 202 RX11 yX11_samplesOf wsX11_samplesOf) := goodIn_app (goodIn_of _ (by decide +kernel)) ggX11_encode_X11_samplesOf
set_option maxRecDepth 20000 in
theorem ggX11_encode_X11_plainBytes : GoodIn wsX11_encode wsX11_plainBytes := goodIn_r _ [114, 4, 27, 53, 17, 18, 19, 14, 20, 21, 38, 39, 40, 41, 16, 42, 43, 44, 45, 46, 47, 48, 71, 72, 73, 92, 93, 94, 95, 10, 128, 129, 130, 131, 132, 133, 134, 135, 136, 137, 138, 139, 140, 141, 142, 143, 144, 145, 146, 147, 148, 149, 150, 151, 152, 153, 154, 155, 156, 157, 158, 159] rfl (by decide +kernel)
set_option maxRecDepth 20000 in
theorem gX11_encode_X11_plainBytes : GoodIn wsX11_encode (wsV RX11 205 RX11 yX11_plainBytes wsX11_plainBytes) := goodIn_app (goodIn_of _ (by decide +kernel)) ggX11_encode_X11_plainBytes
set_option maxRecDepth 20000 in
theorem ggX11_encode_X11_add : GoodIn wsX11_encode wsX11_add := goodIn_r _ [118, 119, 2, 128, 129, 130, 131, 132, 133, 134, 135, 136, 137, 138, 139, 140, 141, 142, 143, 144, 145, 146, 147, 148, 149, 150, 151, 152, 153, 154, 155, 156, 157, 158, 159] rfl (by decide +kernel)
set_option maxRecDepth 20000 in
theorem gX11_encode_X11_add : GoodIn wsX11_encode (wsV RX11 208 RX11 yX11_add wsX11_add) := goodIn_app (goodIn_of _ (by decide +kernel)) ggX11_encode_X11_add
set_option maxRecDepth 20000 in
theorem ggX11_encode_X11_keep : GoodIn wsX11_encode wsX11_keep := goodIn_r _ [123, 124, 32, 125, 33, 126, 35, 127, 36, 128, 129, 130, 131, 132, 133, 134, 135, 136, 137, 138, 139, 140, 141, 142, 143, 144, 145, 146, 147, 148, 149, 150, 151, 152, 153, 154, 155, 156, 157, 158, 159] rfl (by decide +kernel)
set_option maxRecDepth 20000 in
theorem gX11_encode_X11_keep : GoodIn wsX11_encode (wsV RX11 88 RX11 yX11_keep wsX11_keep) := goodIn_app (goodIn_of _ (by decide +kernel)) ggX11_encode_X11_keep
set_option maxRecDepth 20000 in
theorem ggX11_byteAt_X11_in : GoodIn wsX11_byteAt wsX11_in := goodIn_r _ [7] rfl (by decide +kernel)
set_option maxRecDepth 20000 in
theorem gX11_byteAt_X11_in : GoodIn wsX11_byteAt (va_wsS RX11 97 yX11_in wsX11_in) := goodIn_app (goodIn_of _ (by decide +kernel)) ggX11_byteAt_X11_in
set_option maxRecDepth 20000 in
theorem ggX11_plain_X11_tiles : GoodIn wsX11_plain wsX11_tiles := goodIn_r _ [7, 8, 9, 10, 11, 6, 12, 13, 17, 18, 19, 20, 21, 22, 23, 24, 25, 26, 27, 28, 29, 30, 31, 32, 33, 34, 35, 36, 37, 38, 39, 40, 41, 42, 43, 44, 45, 46, 47, 48] rfl (by decide +kernel)
set_option maxRecDepth 20000 in
theorem gX11_plain_X11_tiles : GoodIn wsX11_plain (wsV RX11 194 RX11 yX11_tiles wsX11_tiles) := goodIn_app (goodIn_of _ (by decide +kernel)) ggX11_plain_X11_tiles
set_option maxRecDepth 20000 in
theorem ggX11_plain_X11_in : GoodIn wsX11_plain wsX11_in := goodIn_r _ [16] rfl (by decide +kernel)
set_option maxRecDepth 20000 in
theorem gX11_plain_X11_in : GoodIn wsX11_plain (va_wsS RX11 97 yX11_in wsX11_in) := goodIn_app (goodIn_of _ (by decide +kernel)) ggX11_plain_X11_in
set_option maxRecDepth 20000 in
theorem ggX11_weight_X11_in : GoodIn wsX11_weight wsX11_in := goodIn_r _ [6] rfl (by decide +kernel)
set_option maxRecDepth 20000 in
theorem gX11_weight_X11_in : GoodIn wsX11_weight (va_wsS RX11 97 yX11_in wsX11_in) := goodIn_app (goodIn_of _ (by decide +kernel)) ggX11_weight_X11_in
set_option maxRecDepth 20000 in
theorem ggX11_chance_X11_in : GoodIn wsX11_chance wsX11_in := goodIn_r _ [9] rfl (by decide +kernel)
set_option maxRecDepth 20000 in
theorem gX11_chance_X11_in : GoodIn wsX11_chance (va_wsS RX11 97 yX11_in wsX11_in) := goodIn_app (goodIn_of _ (by decide +kernel)) ggX11_chance_X11_in
set_option maxRecDepth 20000 in
theorem ggX11_share_X11_in : GoodIn wsX11_share wsX11_in := goodIn_r _ [7] rfl (by decide +kernel)
set_option maxRecDepth 20000 in
theorem gX11_share_X11_in : GoodIn wsX11_share (va_wsS RX11 97 yX11_in wsX11_in) := goodIn_app (goodIn_of _ (by decide +kernel)) ggX11_share_X11_in
set_option maxRecDepth 20000 in
theorem ggX11_feed_X11_in : GoodIn wsX11_feed wsX11_in := goodIn_r _ [7] rfl (by decide +kernel)
set_option maxRecDepth 20000 in
theorem gX11_feed_X11_in : GoodIn wsX11_feed (va_wsS RX11 97 yX11_in wsX11_in) := goodIn_app (goodIn_of _ (by decide +kernel)) ggX11_feed_X11_in
set_option maxRecDepth 20000 in
theorem ggX11_poke_X11_in : GoodIn wsX11_poke wsX11_in := goodIn_r _ [7] rfl (by decide +kernel)
set_option maxRecDepth 20000 in
theorem gX11_poke_X11_in : GoodIn wsX11_poke (va_wsS RX11 97 yX11_in wsX11_in) := goodIn_app (goodIn_of _ (by decide +kernel)) ggX11_poke_X11_in
set_option maxRecDepth 20000 in
theorem ggX11_isGood_X11_samplesOf : GoodIn wsX11_isGood wsX11_samplesOf := goodIn_r _ [8, 9, 10, 11, 12, 7, 13, 14, 15, 16, 17, 18, 19, 20, 21, 22, 23, 24, 25, 26, 27, 28, 29, 30, 31, 32, 33, 34, 35, 36, 37, 38, 39, 40, 41, 42, 43, 44, 45, 46, 47, 48, 49, 50, 51, 52, 53, 54, 55, 56, 57, 58] rfl (by decide +kernel)
set_option maxRecDepth 20000 in
theorem gX11_isGood_X11_samplesOf : GoodIn wsX11_isGood (wsV RX11 202 RX11 yX11_samplesOf wsX11_samplesOf) := goodIn_app (goodIn_of _ (by decide +kernel)) ggX11_isGood_X11_samplesOf
set_option maxRecDepth 20000 in
theorem ggX11_readPlain_X11_across : GoodIn wsX11_readPlain wsX11_across := goodIn_r _ [8, 9, 25, 26, 27, 28, 29, 30, 31, 32, 33, 34, 35, 36, 37, 38, 39, 40, 41, 42, 43, 44, 45, 46, 47, 48, 49, 50, 51, 52, 53, 54, 55, 56] rfl (by decide +kernel)
set_option maxRecDepth 20000 in
theorem gX11_readPlain_X11_across : GoodIn wsX11_readPlain (wsV RX11 182 RX11 yX11_across wsX11_across) := goodIn_app (goodIn_of _ (by decide +kernel)) ggX11_readPlain_X11_across
set_option maxRecDepth 20000 in
theorem ggX11_readPlain_X11_lowerOf : GoodIn wsX11_readPlain wsX11_lowerOf := goodIn_r _ [13, 14, 4, 5, 6, 7, 8, 9, 15, 16, 17, 25, 26, 27, 28, 29, 30, 31, 32, 33, 34, 35, 36, 37, 38, 39, 40, 41, 42, 43, 44, 45, 46, 47, 48, 49, 50, 51, 52, 53, 54, 55, 56] rfl (by decide +kernel)
set_option maxRecDepth 20000 in
theorem gX11_readPlain_X11_lowerOf : GoodIn wsX11_readPlain (wsV RX11 188 RX11 yX11_lowerOf wsX11_lowerOf) := goodIn_app (goodIn_of _ (by decide +kernel)) ggX11_readPlain_X11_lowerOf
set_option maxRecDepth 20000 in
theorem ggX11_readPlain_X11_rightOf : GoodIn wsX11_readPlain wsX11_rightOf := goodIn_r _ [21, 9, 4, 5, 6, 7, 8, 15, 16, 17, 25, 26, 27, 28, 29, 30, 31, 32, 33, 34, 35, 36, 37, 38, 39, 40, 41, 42, 43, 44, 45, 46, 47, 48, 49, 50, 51, 52, 53, 54, 55, 56] rfl (by decide +kernel)
set_option maxRecDepth 20000 in
theorem gX11_readPlain_X11_rightOf : GoodIn wsX11_readPlain (wsV RX11 185 RX11 yX11_rightOf wsX11_rightOf) := goodIn_app (goodIn_of _ (by decide +kernel)) ggX11_readPlain_X11_rightOf
set_option maxRecDepth 20000 in
theorem ggX11_readPlain_X11_spot : GoodIn wsX11_readPlain wsX11_spot := goodIn_r _ [24] rfl (by decide +kernel)
set_option maxRecDepth 20000 in
theorem gX11_readPlain_X11_spot : GoodIn wsX11_readPlain (va_wsS RX11 104 yX11_spot wsX11_spot) := goodIn_app (goodIn_of _ (by decide +kernel)) ggX11_readPlain_X11_spot
set_option maxRecDepth 20000 in
theorem ggX11_readTile_X11_nextByte : GoodIn wsX11_readTile wsX11_nextByte := goodIn_r _ [9, 2, 3, 10, 99, 100, 101, 102, 103, 104, 105, 106, 107, 108, 109, 110, 111, 112, 113, 114, 115, 116, 117, 118, 119, 120, 121, 122, 123, 124, 125, 126, 127, 128, 129, 130] rfl (by decide +kernel)
set_option maxRecDepth 20000 in
theorem gX11_readTile_X11_nextByte : GoodIn wsX11_readTile (wsV RX11 153 RX11 yX11_nextByte wsX11_nextByte) := goodIn_app (goodIn_of _ (by decide +kernel)) ggX11_readTile_X11_nextByte
set_option maxRecDepth 20000 in
theorem ggX11_readTile_X11_walk : GoodIn wsX11_readTile wsX11_walk := goodIn_r _ [14, 15, 16, 17, 18, 19, 20, 21, 8, 22, 23, 24, 25, 26, 27, 28, 29, 30, 31, 32, 33, 34, 35, 36, 37, 38, 39, 40, 41, 42, 43, 44, 45, 46, 47, 48, 49, 50, 51, 52, 53, 54, 55, 56, 57, 58, 59, 60, 61, 62, 63, 64, 65, 66, 67, 68, 69, 70, 71, 72, 73, 74, 75, 76, 77, 78, 79, 80, 81, 82, 1, 4, 83, 84, 85, 86, 87, 88, 89, 90, 91, 92, 93, 94, 5, 6, 7, 9, 2, 3, 10, 95, 96, 97, 98, 99, 100, 101, 102, 103, 104, 105, 106, 107, 108, 109, 110, 111, 112, 113, 114, 115, 116, 117, 118, 119, 120, 121, 122, 123, 124, 125, 126, 127, 128, 129, 130] rfl (by decide +kernel)
set_option maxRecDepth 20000 in
theorem gX11_readTile_X11_walk : GoodIn wsX11_readTile (wsV RX11 197 RX11 yX11_walk wsX11_walk) := goodIn_app (goodIn_of _ (by decide +kernel)) ggX11_readTile_X11_walk
set_option maxRecDepth 20000 in
theorem ggX11_decode_X11_tiles : GoodIn wsX11_decode wsX11_tiles := goodIn_r _ [8, 9, 10, 11, 12, 7, 13, 14, 121, 122, 123, 124, 125, 126, 127, 128, 129, 130, 131, 132, 133, 134, 135, 136, 137, 138, 139, 140, 141, 142, 143, 144, 145, 146, 147, 148, 149, 150, 151, 152] rfl (by decide +kernel)
set_option maxRecDepth 20000 in
theorem gX11_decode_X11_tiles : GoodIn wsX11_decode (wsV RX11 194 RX11 yX11_tiles wsX11_tiles) := goodIn_app (goodIn_of _ (by decide +kernel)) ggX11_decode_X11_tiles
set_option maxRecDepth 20000 in
theorem ggX11_decode_X11_isGood : GoodIn wsX11_decode wsX11_isGood := goodIn_r _ [18, 2, 3, 19, 20, 21, 22, 7, 23, 24, 25, 26, 27, 28, 14, 10, 11, 12, 13, 29, 30, 31, 32, 33, 34, 35, 9, 121, 122, 123, 124, 125, 126, 127, 128, 129, 130, 131, 132, 133, 134, 135, 136, 137, 138, 139, 140, 141, 142, 143, 144, 145, 146, 147, 148, 149, 150, 151, 152] rfl (by decide +kernel)
set_option maxRecDepth 20000 in
theorem gX11_decode_X11_isGood : GoodIn wsX11_decode (wsV RX11 211 RX11 yX11_isGood wsX11_isGood) := goodIn_app (goodIn_of _ (by decide +kernel)) ggX11_decode_X11_isGood
set_option maxRecDepth 20000 in
theorem ggX11_decode_X11_readPlain : GoodIn wsX11_decode wsX11_readPlain := goodIn_r _ [39, 24, 40, 3, 10, 11, 12, 7, 13, 14, 32, 33, 34, 35, 9, 29, 30, 31, 25, 26, 27, 28, 41, 42, 43, 121, 122, 123, 124, 125, 126, 127, 128, 129, 130, 131, 132, 133, 134, 135, 136, 137, 138, 139, 140, 141, 142, 143, 144, 145, 146, 147, 148, 149, 150, 151, 152] rfl (by decide +kernel)
set_option maxRecDepth 20000 in
theorem gX11_decode_X11_readPlain : GoodIn wsX11_decode (wsV RX11 215 RX11 yX11_readPlain wsX11_readPlain) := goodIn_app (goodIn_of _ (by decide +kernel)) ggX11_decode_X11_readPlain
set_option maxRecDepth 20000 in
theorem ggX11_decode_X11_readTile : GoodIn wsX11_decode wsX11_readTile := goodIn_r _ [47, 48, 49, 50, 51, 52, 53, 54, 7, 55, 3, 56, 57, 58, 59, 60, 61, 62, 24, 63, 64, 65, 66, 67, 68, 69, 70, 71, 72, 10, 11, 12, 13, 14, 32, 33, 34, 35, 9, 29, 30, 31, 25, 26, 27, 28, 73, 74, 75, 76, 40, 77, 19, 78, 79, 80, 81, 82, 83, 84, 85, 86, 87, 88, 89, 90, 91, 92, 41, 42, 43, 93, 94, 95, 96, 97, 98, 99, 100, 101, 102, 103, 104, 105, 106, 107, 108, 109, 110, 111, 112, 113, 114, 115, 116, 117, 118, 119, 120, 121, 122, 123, 124, 125, 126, 127, 128, 129, 130, 131, 132, 133, 134, 135, 136, 137, 138, 139, 140, 141, 142, 143, 144, 145, 146, 147, 148, 149, 150, 151, 152] rfl (by decide +kernel)
set_option maxRecDepth 20000 in
theorem gX11_decode_X11_readTile : GoodIn wsX11_decode (wsV RX11 219 RX11 yX11_readTile wsX11_readTile) := goodIn_app (goodIn_of _ (by decide +kernel)) ggX11_decode_X11_readTile
set_option maxRecDepth 20000 in
theorem ggX11_decode_X11_samplesOf : GoodIn wsX11_decode wsX11_samplesOf := goodIn_r _ [23, 24, 25, 26, 27, 7, 28, 14, 10, 11, 12, 13, 29, 30, 31, 32, 33, 34, 35, 9, 121, 122, 123, 124, 125, 126, 127, 128, 129, 130, 131, 132, 133, 134, 135, 136, 137, 138, 139, 140, 141, 142, 143, 144, 145, 146, 147, 148, 149, 150, 151, 152] rfl (by decide +kernel)
set_option maxRecDepth 20000 in
theorem gX11_decode_X11_samplesOf : GoodIn wsX11_decode (wsV RX11 202 RX11 yX11_samplesOf wsX11_samplesOf) := goodIn_app (goodIn_of _ (by decide +kernel)) ggX11_decode_X11_samplesOf
set_option maxRecDepth 20000 in
theorem ggX11_told_X11_tiles : GoodIn wsX11_told wsX11_tiles := goodIn_r _ [12, 5, 13, 14, 15, 11, 16, 4, 17, 18, 19, 20, 21, 22, 23, 24, 25, 26, 27, 28, 29, 30, 31, 32, 33, 34, 35, 36, 37, 38, 39, 40, 41, 42, 43, 44, 45, 46, 47, 48] rfl (by decide +kernel)
set_option maxRecDepth 20000 in
theorem gX11_told_X11_tiles : GoodIn wsX11_told (wsV RX11 194 RX11 yX11_tiles wsX11_tiles) := goodIn_app (goodIn_of _ (by decide +kernel)) ggX11_told_X11_tiles
set_option maxRecDepth 20000 in
theorem ggL_put_X10_put : GoodIn wsL_put wsX10_put := goodIn_ca (goodIn_ca (goodIn_r _ [7, 8, 9, 10, 11, 12, 13, 14, 15, 16, 17, 18, 19, 20, 21, 22, 23, 24, 25, 26, 27, 28, 29, 30, 31, 32, 33, 34, 35, 36, 37, 38, 39, 40, 41, 42, 43, 44, 45, 46, 47, 48, 49, 50, 51, 52, 53, 54, 55, 56, 57, 58, 59, 60, 61, 62, 63] rfl (by decide +kernel)) (goodIn_sub (fun _ h => List.mem_cons_of_mem _ (List.mem_append_left _ (List.mem_append_right _ h))) (by decide +kernel))) (goodIn_sub (fun _ h => List.mem_cons_of_mem _ (List.mem_append_right _ h)) (by decide +kernel))
set_option maxRecDepth 20000 in
theorem gL_put_X10_put : GoodIn wsL_put (wsV RL 7 RX10 yX10_put wsX10_put) := goodIn_app (goodIn_of _ (by decide +kernel)) ggL_put_X10_put
set_option maxRecDepth 20000 in
theorem ggL_at_X10_at : GoodIn wsL_at wsX10_at := goodIn_ca (goodIn_r _ [6, 7, 8, 9, 10, 11, 12, 13, 14, 15, 16, 17, 18, 19, 20, 21, 22, 23, 24, 25, 26, 27, 28, 29, 30, 31, 32, 33, 34, 35, 36, 37, 38, 39, 40, 41, 42, 43, 44, 45, 46, 47, 48, 49, 50, 51] rfl (by decide +kernel)) (goodIn_sub (fun _ h => List.mem_cons_of_mem _ (List.mem_append_right _ h)) (by decide +kernel))
set_option maxRecDepth 20000 in
theorem gL_at_X10_at : GoodIn wsL_at (wsV RL 17 RX10 yX10_at wsX10_at) := goodIn_app (goodIn_of _ (by decide +kernel)) ggL_at_X10_at
set_option maxRecDepth 20000 in
theorem ggL_predicted_X10_predicted : GoodIn wsL_predicted wsX10_predicted := goodIn_ca (goodIn_r _ [6, 7, 8, 9, 10, 11, 12, 13, 14, 15, 16, 17, 18, 19, 20, 21, 22, 23, 24, 25, 26, 27, 28, 29, 30, 31, 32, 33, 34, 35, 36, 37, 38, 39, 40, 41, 42, 43, 44, 45, 46, 47, 48, 49, 50, 51, 52, 53, 54, 55, 56, 5, 57, 58, 59, 60, 61, 62, 63, 64, 65, 66, 67, 68, 69, 70, 71, 72, 73, 74, 75, 76, 77, 78, 79, 80, 81, 82] rfl (by decide +kernel)) (goodIn_sub (fun _ h => List.mem_cons_of_mem _ (List.mem_append_right _ h)) (by decide +kernel))
set_option maxRecDepth 20000 in
theorem gL_predicted_X10_predicted : GoodIn wsL_predicted (wsV RL 21 RX10 yX10_predicted wsX10_predicted) := goodIn_app (goodIn_of _ (by decide +kernel)) ggL_predicted_X10_predicted
set_option maxRecDepth 20000 in
theorem ggL_byteAt_X10_byteAt : GoodIn wsL_byteAt wsX10_byteAt := goodIn_ca (goodIn_r _ [6, 7, 8, 9, 10, 11, 12, 13, 14, 15, 16, 17, 18, 19, 20, 21, 22, 23, 24, 25, 26, 27, 28, 29, 30, 31, 32] rfl (by decide +kernel)) (goodIn_sub (fun _ h => List.mem_cons_of_mem _ (List.mem_append_right _ h)) (by decide +kernel))
set_option maxRecDepth 20000 in
theorem gL_byteAt_X10_byteAt : GoodIn wsL_byteAt (wsV RL 25 RX10 yX10_byteAt wsX10_byteAt) := goodIn_app (goodIn_of _ (by decide +kernel)) ggL_byteAt_X10_byteAt
set_option maxRecDepth 20000 in
theorem ggL_plain_X10_plain : GoodIn wsL_plain wsX10_plain := goodIn_ca (goodIn_r _ [6, 7, 8, 9, 10, 11, 12, 13, 14, 15, 16, 17, 18, 19, 20, 21, 22, 23, 24, 25, 26, 27, 28, 29, 30, 31, 32, 33, 34, 35, 36, 37, 38, 39, 40, 41, 42] rfl (by decide +kernel)) (goodIn_sub (fun _ h => List.mem_cons_of_mem _ (List.mem_append_right _ h)) (by decide +kernel))
set_option maxRecDepth 20000 in
theorem gL_plain_X10_plain : GoodIn wsL_plain (wsV RL 29 RX10 yX10_plain wsX10_plain) := goodIn_app (goodIn_of _ (by decide +kernel)) ggL_plain_X10_plain
set_option maxRecDepth 20000 in
theorem ggL_weight_X10_weight : GoodIn wsL_weight wsX10_weight := goodIn_ca (goodIn_r _ [6, 7, 8, 9, 10, 11, 12, 13, 14, 15, 16, 17, 18, 19, 20, 21, 22, 23, 24, 25, 26, 27, 28, 29, 30, 31, 32, 33, 34, 35, 36, 37, 38, 39, 40] rfl (by decide +kernel)) (goodIn_sub (fun _ h => List.mem_cons_of_mem _ (List.mem_append_right _ h)) (by decide +kernel))
set_option maxRecDepth 20000 in
theorem gL_weight_X10_weight : GoodIn wsL_weight (wsV RL 33 RX10 yX10_weight wsX10_weight) := goodIn_app (goodIn_of _ (by decide +kernel)) ggL_weight_X10_weight
set_option maxRecDepth 20000 in
theorem ggL_chance_X10_chance : GoodIn wsL_chance wsX10_chance := goodIn_ca (goodIn_ca (goodIn_r _ [7, 8, 9, 10, 11, 12, 13, 14, 15, 16, 17, 18, 19, 20, 21, 22, 23, 24, 25, 26, 27, 28, 29, 30, 31, 32, 33, 34, 35, 36, 37, 38, 39, 40, 41, 42, 43, 44, 45, 46, 47, 48, 49, 50, 51, 52, 53, 54, 55, 56, 57, 58, 59, 60, 61, 62, 63] rfl (by decide +kernel)) (goodIn_sub (fun _ h => List.mem_cons_of_mem _ (List.mem_append_left _ (List.mem_append_right _ h))) (by decide +kernel))) (goodIn_sub (fun _ h => List.mem_cons_of_mem _ (List.mem_append_right _ h)) (by decide +kernel))
set_option maxRecDepth 20000 in
theorem gL_chance_X10_chance : GoodIn wsL_chance (wsV RL 36 RX10 yX10_chance wsX10_chance) := goodIn_app (goodIn_of _ (by decide +kernel)) ggL_chance_X10_chance
set_option maxRecDepth 20000 in
theorem ggL_share_X10_share : GoodIn wsL_share wsX10_share := goodIn_ca (goodIn_r _ [6, 7, 8, 9, 10, 11, 12, 13, 14, 15, 16, 17, 18, 19, 20, 21, 22, 23, 24, 25, 26, 27, 28, 29, 30, 31, 32, 33, 34, 35, 36, 37, 38, 39, 40, 41, 42, 43, 44, 45, 46, 47, 48, 49, 50, 51, 52] rfl (by decide +kernel)) (goodIn_sub (fun _ h => List.mem_cons_of_mem _ (List.mem_append_right _ h)) (by decide +kernel))
set_option maxRecDepth 20000 in
theorem gL_share_X10_share : GoodIn wsL_share (wsV RL 40 RX10 yX10_share wsX10_share) := goodIn_app (goodIn_of _ (by decide +kernel)) ggL_share_X10_share
set_option maxRecDepth 20000 in
theorem ggL_feed_X10_feed : GoodIn wsL_feed wsX10_feed := goodIn_ca (goodIn_ca (goodIn_r _ [7, 8, 9, 10, 11, 12, 13, 14, 15, 16, 17, 18, 19, 20, 21, 22, 23, 24, 25, 26, 27, 28, 29, 30, 31, 32, 33, 34, 35] rfl (by decide +kernel)) (goodIn_sub (fun _ h => List.mem_cons_of_mem _ (List.mem_append_left _ (List.mem_append_right _ h))) (by decide +kernel))) (goodIn_sub (fun _ h => List.mem_cons_of_mem _ (List.mem_append_right _ h)) (by decide +kernel))
set_option maxRecDepth 20000 in
theorem gL_feed_X10_feed : GoodIn wsL_feed (wsV RL 43 RX10 yX10_feed wsX10_feed) := goodIn_app (goodIn_of _ (by decide +kernel)) ggL_feed_X10_feed
set_option maxRecDepth 20000 in
theorem ggL_pass_X10_pass : GoodIn wsL_pass wsX10_pass := goodIn_ca (goodIn_r _ [6, 7, 8, 9, 10, 11, 12, 13, 14, 15, 16, 17, 18, 19, 20, 21, 22, 23, 24, 25, 26, 27, 28, 29, 30, 31, 32, 33, 34, 35, 36, 37, 38, 39, 40, 41] rfl (by decide +kernel)) (goodIn_sub (fun _ h => List.mem_cons_of_mem _ (List.mem_append_right _ h)) (by decide +kernel))
set_option maxRecDepth 20000 in
theorem gL_pass_X10_pass : GoodIn wsL_pass (wsV RL 48 RX10 yX10_pass wsX10_pass) := goodIn_app (goodIn_of _ (by decide +kernel)) ggL_pass_X10_pass
set_option maxRecDepth 20000 in
theorem ggL_poke_X10_poke : GoodIn wsL_poke wsX10_poke := goodIn_ca (goodIn_ca (goodIn_r _ [7, 8, 9, 10, 11, 12, 13, 14, 15, 16, 17, 18, 19, 20, 21, 22, 23, 24, 25, 26, 27, 28, 29, 30, 31, 32, 33, 34, 35, 36, 37, 38, 39] rfl (by decide +kernel)) (goodIn_sub (fun _ h => List.mem_cons_of_mem _ (List.mem_append_left _ (List.mem_append_right _ h))) (by decide +kernel))) (goodIn_sub (fun _ h => List.mem_cons_of_mem _ (List.mem_append_right _ h)) (by decide +kernel))
set_option maxRecDepth 20000 in
theorem gL_poke_X10_poke : GoodIn wsL_poke (wsV RL 52 RX10 yX10_poke wsX10_poke) := goodIn_app (goodIn_of _ (by decide +kernel)) ggL_poke_X10_poke
