/- Part 12l: method tables, printed by wip/whole/tools -/
def mL_open : XM := (⟨"ChannelNetLaw", "open", "(LChannelNet;IIII[J)I"⟩, method_3_code, 7, (Option.some FieldType.int), [(0, 14, 17, 13), (0, 14, 21, 15), (0, 14, 25, 17)], [
  (0, .aload 5, 2, 2, 0, .null, 0),
  (2, .iconst 0, 1, 3, 0, .int 0, 0),
  (3, .aload_n 0, 1, 4, 0, .null, 0),
  (4, .iload_n 1, 1, 5, 0, .null, 0),
  (5, .iload_n 2, 1, 6, 0, .null, 0),
  (6, .iload_n 3, 1, 7, 0, .null, 0),
  (7, .iload 4, 2, 9, 0, .null, 0),
  (9, .invokevirtual 7, 3, 12, 0, .null, 0),
  (12, .i2l, 1, 13, 0, .null, 0),
  (13, .lastore, 1, 14, 0, .null, 0),
  (14, .goto 15, 3, 17, 29, .null, 0),
  (17, .astore 6, 2, 19, 0, .null, 0),
  (19, .iconst 1, 1, 20, 0, .int 1, 0),
  (20, .ireturn, 1, 21, 0, .null, 0),
  (21, .astore 6, 2, 23, 0, .null, 0),
  (23, .iconst 2, 1, 24, 0, .int 2, 0),
  (24, .ireturn, 1, 25, 0, .null, 0),
  (25, .astore 6, 2, 27, 0, .null, 0),
  (27, .iconst 3, 1, 28, 0, .int 3, 0),
  (28, .ireturn, 1, 29, 0, .null, 0),
  (29, .iconst 0, 1, 30, 0, .int 0, 0),
  (30, .ireturn, 1, 31, 0, .null, 0)])
set_option maxRecDepth 100000 in
theorem mL_open_ok : xOK mL_open = true := by decide +kernel
def mL_fees : XM := (⟨"ChannelNetLaw", "fees", "(LChannelNet;IIII)I"⟩, method_4_code, 6, (Option.some FieldType.int), [(0, 9, 12, 13), (0, 9, 16, 15)], [
  (0, .aload_n 0, 1, 1, 0, .null, 0),
  (1, .iload_n 1, 1, 2, 0, .null, 0),
  (2, .iload_n 2, 1, 3, 0, .null, 0),
  (3, .iload_n 3, 1, 4, 0, .null, 0),
  (4, .iload 4, 2, 6, 0, .null, 0),
  (6, .invokevirtual 19, 3, 9, 0, .null, 0),
  (9, .goto 11, 3, 12, 20, .null, 0),
  (12, .astore 5, 2, 14, 0, .null, 0),
  (14, .iconst 1, 1, 15, 0, .int 1, 0),
  (15, .ireturn, 1, 16, 0, .null, 0),
  (16, .astore 5, 2, 18, 0, .null, 0),
  (18, .iconst 2, 1, 19, 0, .int 2, 0),
  (19, .ireturn, 1, 20, 0, .null, 0),
  (20, .iconst 0, 1, 21, 0, .int 0, 0),
  (21, .ireturn, 1, 22, 0, .null, 0)])
set_option maxRecDepth 100000 in
theorem mL_fees_ok : xOK mL_fees = true := by decide +kernel
def mL_tell : XM := (⟨"ChannelNetLaw", "tell", "(LChannelNet;IJ[J)I"⟩, method_5_code, 6, (Option.some FieldType.int), [(0, 10, 13, 13), (0, 10, 17, 17)], [
  (0, .aload 4, 2, 2, 0, .null, 0),
  (2, .iconst 0, 1, 3, 0, .int 0, 0),
  (3, .aload_n 0, 1, 4, 0, .null, 0),
  (4, .iload_n 1, 1, 5, 0, .null, 0),
  (5, .lload_n 2, 1, 6, 0, .null, 0),
  (6, .invokevirtual 23, 3, 9, 0, .null, 0),
  (9, .lastore, 1, 10, 0, .null, 0),
  (10, .goto 11, 3, 13, 21, .null, 0),
  (13, .astore 5, 2, 15, 0, .null, 0),
  (15, .iconst 1, 1, 16, 0, .int 1, 0),
  (16, .ireturn, 1, 17, 0, .null, 0),
  (17, .astore 5, 2, 19, 0, .null, 0),
  (19, .iconst 2, 1, 20, 0, .int 2, 0),
  (20, .ireturn, 1, 21, 0, .null, 0),
  (21, .iconst 0, 1, 22, 0, .int 0, 0),
  (22, .ireturn, 1, 23, 0, .null, 0)])
set_option maxRecDepth 100000 in
theorem mL_tell_ok : xOK mL_tell = true := by decide +kernel
def mL_knows : XM := (⟨"ChannelNetLaw", "knows", "(LChannelNet;IJ[J)I"⟩, method_6_code, 6, (Option.some FieldType.int), [(0, 18, 21, 13)], [
  (0, .aload 4, 2, 2, 0, .null, 0),
  (2, .iconst 0, 1, 3, 0, .int 0, 0),
  (3, .aload_n 0, 1, 4, 0, .null, 0),
  (4, .iload_n 1, 1, 5, 0, .null, 0),
  (5, .lload_n 2, 1, 6, 0, .null, 0),
  (6, .invokevirtual 27, 3, 9, 0, .null, 0),
  (9, .ifCond .eq 7, 3, 12, 16, .null, 0),
  (12, .lconst 1, 1, 13, 0, .long 1, 0),
  (13, .goto 4, 3, 16, 17, .null, 0),
  (16, .lconst 0, 1, 17, 0, .long 0, 0),
  (17, .lastore, 1, 18, 0, .null, 0),
  (18, .goto 7, 3, 21, 25, .null, 0),
  (21, .astore 5, 2, 23, 0, .null, 0),
  (23, .iconst 1, 1, 24, 0, .int 1, 0),
  (24, .ireturn, 1, 25, 0, .null, 0),
  (25, .iconst 0, 1, 26, 0, .int 0, 0),
  (26, .ireturn, 1, 27, 0, .null, 0)])
set_option maxRecDepth 100000 in
theorem mL_knows_ok : xOK mL_knows = true := by decide +kernel
def mL_promise : XM := (⟨"ChannelNetLaw", "promise", "(LChannelNet;IIIJI[J)I"⟩, method_7_code, 9, (Option.some FieldType.int), [(0, 16, 19, 13), (0, 16, 23, 15), (0, 16, 27, 17)], [
  (0, .aload 7, 2, 2, 0, .null, 0),
  (2, .iconst 0, 1, 3, 0, .int 0, 0),
  (3, .aload_n 0, 1, 4, 0, .null, 0),
  (4, .iload_n 1, 1, 5, 0, .null, 0),
  (5, .iload_n 2, 1, 6, 0, .null, 0),
  (6, .iload_n 3, 1, 7, 0, .null, 0),
  (7, .lload 4, 2, 9, 0, .null, 0),
  (9, .iload 6, 2, 11, 0, .null, 0),
  (11, .invokevirtual 31, 3, 14, 0, .null, 0),
  (14, .i2l, 1, 15, 0, .null, 0),
  (15, .lastore, 1, 16, 0, .null, 0),
  (16, .goto 15, 3, 19, 31, .null, 0),
  (19, .astore 8, 2, 21, 0, .null, 0),
  (21, .iconst 1, 1, 22, 0, .int 1, 0),
  (22, .ireturn, 1, 23, 0, .null, 0),
  (23, .astore 8, 2, 25, 0, .null, 0),
  (25, .iconst 2, 1, 26, 0, .int 2, 0),
  (26, .ireturn, 1, 27, 0, .null, 0),
  (27, .astore 8, 2, 29, 0, .null, 0),
  (29, .iconst 3, 1, 30, 0, .int 3, 0),
  (30, .ireturn, 1, 31, 0, .null, 0),
  (31, .iconst 0, 1, 32, 0, .int 0, 0),
  (32, .ireturn, 1, 33, 0, .null, 0)])
set_option maxRecDepth 100000 in
theorem mL_promise_ok : xOK mL_promise = true := by decide +kernel
def mL_keep : XM := (⟨"ChannelNetLaw", "keep", "(LChannelNet;IIJ[J)I"⟩, method_8_code, 7, (Option.some FieldType.int), [(0, 12, 15, 13), (0, 12, 19, 15), (0, 12, 23, 17)], [
  (0, .aload 5, 2, 2, 0, .null, 0),
  (2, .iconst 0, 1, 3, 0, .int 0, 0),
  (3, .aload_n 0, 1, 4, 0, .null, 0),
  (4, .iload_n 1, 1, 5, 0, .null, 0),
  (5, .iload_n 2, 1, 6, 0, .null, 0),
  (6, .lload_n 3, 1, 7, 0, .null, 0),
  (7, .invokevirtual 35, 3, 10, 0, .null, 0),
  (10, .i2l, 1, 11, 0, .null, 0),
  (11, .lastore, 1, 12, 0, .null, 0),
  (12, .goto 15, 3, 15, 27, .null, 0),
  (15, .astore 6, 2, 17, 0, .null, 0),
  (17, .iconst 1, 1, 18, 0, .int 1, 0),
  (18, .ireturn, 1, 19, 0, .null, 0),
  (19, .astore 6, 2, 21, 0, .null, 0),
  (21, .iconst 2, 1, 22, 0, .int 2, 0),
  (22, .ireturn, 1, 23, 0, .null, 0),
  (23, .astore 6, 2, 25, 0, .null, 0),
  (25, .iconst 3, 1, 26, 0, .int 3, 0),
  (26, .ireturn, 1, 27, 0, .null, 0),
  (27, .iconst 0, 1, 28, 0, .int 0, 0),
  (28, .ireturn, 1, 29, 0, .null, 0)])
set_option maxRecDepth 100000 in
theorem mL_keep_ok : xOK mL_keep = true := by decide +kernel
def mL_drop : XM := (⟨"ChannelNetLaw", "drop", "(LChannelNet;II[J)I"⟩, method_9_code, 5, (Option.some FieldType.int), [(0, 10, 13, 13), (0, 10, 17, 17)], [
  (0, .aload_n 3, 1, 1, 0, .null, 0),
  (1, .iconst 0, 1, 2, 0, .int 0, 0),
  (2, .aload_n 0, 1, 3, 0, .null, 0),
  (3, .iload_n 1, 1, 4, 0, .null, 0),
  (4, .iload_n 2, 1, 5, 0, .null, 0),
  (5, .invokevirtual 39, 3, 8, 0, .null, 0),
  (8, .i2l, 1, 9, 0, .null, 0),
  (9, .lastore, 1, 10, 0, .null, 0),
  (10, .goto 11, 3, 13, 21, .null, 0),
  (13, .astore 4, 2, 15, 0, .null, 0),
  (15, .iconst 1, 1, 16, 0, .int 1, 0),
  (16, .ireturn, 1, 17, 0, .null, 0),
  (17, .astore 4, 2, 19, 0, .null, 0),
  (19, .iconst 2, 1, 20, 0, .int 2, 0),
  (20, .ireturn, 1, 21, 0, .null, 0),
  (21, .iconst 0, 1, 22, 0, .int 0, 0),
  (22, .ireturn, 1, 23, 0, .null, 0)])
set_option maxRecDepth 100000 in
theorem mL_drop_ok : xOK mL_drop = true := by decide +kernel
def mL_close : XM := (⟨"ChannelNetLaw", "close", "(LChannelNet;I)I"⟩, method_10_code, 3, (Option.some FieldType.int), [(0, 5, 8, 13), (0, 5, 11, 17)], [
  (0, .aload_n 0, 1, 1, 0, .null, 0),
  (1, .iload_n 1, 1, 2, 0, .null, 0),
  (2, .invokevirtual 43, 3, 5, 0, .null, 0),
  (5, .goto 9, 3, 8, 14, .null, 0),
  (8, .astore_n 2, 1, 9, 0, .null, 0),
  (9, .iconst 1, 1, 10, 0, .int 1, 0),
  (10, .ireturn, 1, 11, 0, .null, 0),
  (11, .astore_n 2, 1, 12, 0, .null, 0),
  (12, .iconst 2, 1, 13, 0, .int 2, 0),
  (13, .ireturn, 1, 14, 0, .null, 0),
  (14, .iconst 0, 1, 15, 0, .int 0, 0),
  (15, .ireturn, 1, 16, 0, .null, 0)])
set_option maxRecDepth 100000 in
theorem mL_close_ok : xOK mL_close = true := by decide +kernel
def mL_route : XM := (⟨"ChannelNetLaw", "route", "(LChannelNet;III[J)I"⟩, method_11_code, 6, (Option.some FieldType.int), [(0, 12, 15, 13), (0, 12, 19, 15)], [
  (0, .aload 4, 2, 2, 0, .null, 0),
  (2, .iconst 0, 1, 3, 0, .int 0, 0),
  (3, .aload_n 0, 1, 4, 0, .null, 0),
  (4, .iload_n 1, 1, 5, 0, .null, 0),
  (5, .iload_n 2, 1, 6, 0, .null, 0),
  (6, .iload_n 3, 1, 7, 0, .null, 0),
  (7, .invokevirtual 47, 3, 10, 0, .null, 0),
  (10, .i2l, 1, 11, 0, .null, 0),
  (11, .lastore, 1, 12, 0, .null, 0),
  (12, .goto 11, 3, 15, 23, .null, 0),
  (15, .astore 5, 2, 17, 0, .null, 0),
  (17, .iconst 1, 1, 18, 0, .int 1, 0),
  (18, .ireturn, 1, 19, 0, .null, 0),
  (19, .astore 5, 2, 21, 0, .null, 0),
  (21, .iconst 2, 1, 22, 0, .int 2, 0),
  (22, .ireturn, 1, 23, 0, .null, 0),
  (23, .iconst 0, 1, 24, 0, .int 0, 0),
  (24, .ireturn, 1, 25, 0, .null, 0)])
set_option maxRecDepth 100000 in
theorem mL_route_ok : xOK mL_route = true := by decide +kernel
def mL_hop : XM := (⟨"ChannelNetLaw", "hop", "(LChannelNet;I[J)I"⟩, method_12_code, 4, (Option.some FieldType.int), [(0, 9, 12, 13)], [
  (0, .aload_n 2, 1, 1, 0, .null, 0),
  (1, .iconst 0, 1, 2, 0, .int 0, 0),
  (2, .aload_n 0, 1, 3, 0, .null, 0),
  (3, .iload_n 1, 1, 4, 0, .null, 0),
  (4, .invokevirtual 51, 3, 7, 0, .null, 0),
  (7, .i2l, 1, 8, 0, .null, 0),
  (8, .lastore, 1, 9, 0, .null, 0),
  (9, .goto 6, 3, 12, 15, .null, 0),
  (12, .astore_n 3, 1, 13, 0, .null, 0),
  (13, .iconst 1, 1, 14, 0, .int 1, 0),
  (14, .ireturn, 1, 15, 0, .null, 0),
  (15, .iconst 0, 1, 16, 0, .int 0, 0),
  (16, .ireturn, 1, 17, 0, .null, 0)])
set_option maxRecDepth 100000 in
theorem mL_hop_ok : xOK mL_hop = true := by decide +kernel
def mL_pay : XM := (⟨"ChannelNetLaw", "pay", "(LChannelNet;IIIJI[J)I"⟩, method_13_code, 9, (Option.some FieldType.int), [(0, 16, 19, 13), (0, 16, 23, 15), (0, 16, 27, 17)], [
  (0, .aload 7, 2, 2, 0, .null, 0),
  (2, .iconst 0, 1, 3, 0, .int 0, 0),
  (3, .aload_n 0, 1, 4, 0, .null, 0),
  (4, .iload_n 1, 1, 5, 0, .null, 0),
  (5, .iload_n 2, 1, 6, 0, .null, 0),
  (6, .iload_n 3, 1, 7, 0, .null, 0),
  (7, .lload 4, 2, 9, 0, .null, 0),
  (9, .iload 6, 2, 11, 0, .null, 0),
  (11, .invokevirtual 55, 3, 14, 0, .null, 0),
  (14, .i2l, 1, 15, 0, .null, 0),
  (15, .lastore, 1, 16, 0, .null, 0),
  (16, .goto 15, 3, 19, 31, .null, 0),
  (19, .astore 8, 2, 21, 0, .null, 0),
  (21, .iconst 1, 1, 22, 0, .int 1, 0),
  (22, .ireturn, 1, 23, 0, .null, 0),
  (23, .astore 8, 2, 25, 0, .null, 0),
  (25, .iconst 2, 1, 26, 0, .int 2, 0),
  (26, .ireturn, 1, 27, 0, .null, 0),
  (27, .astore 8, 2, 29, 0, .null, 0),
  (29, .iconst 3, 1, 30, 0, .int 3, 0),
  (30, .ireturn, 1, 31, 0, .null, 0),
  (31, .iconst 0, 1, 32, 0, .int 0, 0),
  (32, .ireturn, 1, 33, 0, .null, 0)])
set_option maxRecDepth 100000 in
theorem mL_pay_ok : xOK mL_pay = true := by decide +kernel
def mL_step : XM := (⟨"ChannelNetLaw", "step", "(LChannelNet;I[J)I"⟩, method_14_code, 4, (Option.some FieldType.int), [(0, 9, 12, 13), (0, 9, 15, 17)], [
  (0, .aload_n 2, 1, 1, 0, .null, 0),
  (1, .iconst 0, 1, 2, 0, .int 0, 0),
  (2, .aload_n 0, 1, 3, 0, .null, 0),
  (3, .iload_n 1, 1, 4, 0, .null, 0),
  (4, .invokevirtual 58, 3, 7, 0, .null, 0),
  (7, .i2l, 1, 8, 0, .null, 0),
  (8, .lastore, 1, 9, 0, .null, 0),
  (9, .goto 9, 3, 12, 18, .null, 0),
  (12, .astore_n 3, 1, 13, 0, .null, 0),
  (13, .iconst 1, 1, 14, 0, .int 1, 0),
  (14, .ireturn, 1, 15, 0, .null, 0),
  (15, .astore_n 3, 1, 16, 0, .null, 0),
  (16, .iconst 2, 1, 17, 0, .int 2, 0),
  (17, .ireturn, 1, 18, 0, .null, 0),
  (18, .iconst 0, 1, 19, 0, .int 0, 0),
  (19, .ireturn, 1, 20, 0, .null, 0)])
set_option maxRecDepth 100000 in
theorem mL_step_ok : xOK mL_step = true := by decide +kernel
def mL_payment : XM := (⟨"ChannelNetLaw", "payment", "(LChannelNet;II[J)I"⟩, method_15_code, 5, (Option.some FieldType.int), [(0, 10, 13, 13), (0, 10, 17, 15)], [
  (0, .aload_n 3, 1, 1, 0, .null, 0),
  (1, .iconst 0, 1, 2, 0, .int 0, 0),
  (2, .aload_n 0, 1, 3, 0, .null, 0),
  (3, .iload_n 1, 1, 4, 0, .null, 0),
  (4, .iload_n 2, 1, 5, 0, .null, 0),
  (5, .invokevirtual 61, 3, 8, 0, .null, 0),
  (8, .i2l, 1, 9, 0, .null, 0),
  (9, .lastore, 1, 10, 0, .null, 0),
  (10, .goto 11, 3, 13, 21, .null, 0),
  (13, .astore 4, 2, 15, 0, .null, 0),
  (15, .iconst 1, 1, 16, 0, .int 1, 0),
  (16, .ireturn, 1, 17, 0, .null, 0),
  (17, .astore 4, 2, 19, 0, .null, 0),
  (19, .iconst 2, 1, 20, 0, .int 2, 0),
  (20, .ireturn, 1, 21, 0, .null, 0),
  (21, .iconst 0, 1, 22, 0, .int 0, 0),
  (22, .ireturn, 1, 23, 0, .null, 0)])
set_option maxRecDepth 100000 in
theorem mL_payment_ok : xOK mL_payment = true := by decide +kernel
def mL_publish : XM := (⟨"ChannelNetLaw", "publish", "(LChannelNet;III)I"⟩, method_16_code, 5, (Option.some FieldType.int), [(0, 7, 10, 13), (0, 7, 14, 17)], [
  (0, .aload_n 0, 1, 1, 0, .null, 0),
  (1, .iload_n 1, 1, 2, 0, .null, 0),
  (2, .iload_n 2, 1, 3, 0, .null, 0),
  (3, .iload_n 3, 1, 4, 0, .null, 0),
  (4, .invokevirtual 64, 3, 7, 0, .null, 0),
  (7, .goto 11, 3, 10, 18, .null, 0),
  (10, .astore 4, 2, 12, 0, .null, 0),
  (12, .iconst 1, 1, 13, 0, .int 1, 0),
  (13, .ireturn, 1, 14, 0, .null, 0),
  (14, .astore 4, 2, 16, 0, .null, 0),
  (16, .iconst 2, 1, 17, 0, .int 2, 0),
  (17, .ireturn, 1, 18, 0, .null, 0),
  (18, .iconst 0, 1, 19, 0, .int 0, 0),
  (19, .ireturn, 1, 20, 0, .null, 0)])
set_option maxRecDepth 100000 in
theorem mL_publish_ok : xOK mL_publish = true := by decide +kernel
def mL_punish : XM := (⟨"ChannelNetLaw", "punish", "(LChannelNet;I[J)I"⟩, method_17_code, 4, (Option.some FieldType.int), [(0, 9, 12, 13), (0, 9, 15, 17)], [
  (0, .aload_n 2, 1, 1, 0, .null, 0),
  (1, .iconst 0, 1, 2, 0, .int 0, 0),
  (2, .aload_n 0, 1, 3, 0, .null, 0),
  (3, .iload_n 1, 1, 4, 0, .null, 0),
  (4, .invokevirtual 68, 3, 7, 0, .null, 0),
  (7, .i2l, 1, 8, 0, .null, 0),
  (8, .lastore, 1, 9, 0, .null, 0),
  (9, .goto 9, 3, 12, 18, .null, 0),
  (12, .astore_n 3, 1, 13, 0, .null, 0),
  (13, .iconst 1, 1, 14, 0, .int 1, 0),
  (14, .ireturn, 1, 15, 0, .null, 0),
  (15, .astore_n 3, 1, 16, 0, .null, 0),
  (16, .iconst 2, 1, 17, 0, .int 2, 0),
  (17, .ireturn, 1, 18, 0, .null, 0),
  (18, .iconst 0, 1, 19, 0, .int 0, 0),
  (19, .ireturn, 1, 20, 0, .null, 0)])
set_option maxRecDepth 100000 in
theorem mL_punish_ok : xOK mL_punish = true := by decide +kernel
def mL_claim : XM := (⟨"ChannelNetLaw", "claim", "(LChannelNet;IIJ[J)I"⟩, method_18_code, 7, (Option.some FieldType.int), [(0, 12, 15, 13), (0, 12, 19, 15), (0, 12, 23, 17)], [
  (0, .aload 5, 2, 2, 0, .null, 0),
  (2, .iconst 0, 1, 3, 0, .int 0, 0),
  (3, .aload_n 0, 1, 4, 0, .null, 0),
  (4, .iload_n 1, 1, 5, 0, .null, 0),
  (5, .iload_n 2, 1, 6, 0, .null, 0),
  (6, .lload_n 3, 1, 7, 0, .null, 0),
  (7, .invokevirtual 71, 3, 10, 0, .null, 0),
  (10, .i2l, 1, 11, 0, .null, 0),
  (11, .lastore, 1, 12, 0, .null, 0),
  (12, .goto 15, 3, 15, 27, .null, 0),
  (15, .astore 6, 2, 17, 0, .null, 0),
  (17, .iconst 1, 1, 18, 0, .int 1, 0),
  (18, .ireturn, 1, 19, 0, .null, 0),
  (19, .astore 6, 2, 21, 0, .null, 0),
  (21, .iconst 2, 1, 22, 0, .int 2, 0),
  (22, .ireturn, 1, 23, 0, .null, 0),
  (23, .astore 6, 2, 25, 0, .null, 0),
  (25, .iconst 3, 1, 26, 0, .int 3, 0),
  (26, .ireturn, 1, 27, 0, .null, 0),
  (27, .iconst 0, 1, 28, 0, .int 0, 0),
  (28, .ireturn, 1, 29, 0, .null, 0)])
set_option maxRecDepth 100000 in
theorem mL_claim_ok : xOK mL_claim = true := by decide +kernel
def mL_takeBack : XM := (⟨"ChannelNetLaw", "takeBack", "(LChannelNet;II[J)I"⟩, method_19_code, 5, (Option.some FieldType.int), [(0, 10, 13, 13), (0, 10, 17, 17)], [
  (0, .aload_n 3, 1, 1, 0, .null, 0),
  (1, .iconst 0, 1, 2, 0, .int 0, 0),
  (2, .aload_n 0, 1, 3, 0, .null, 0),
  (3, .iload_n 1, 1, 4, 0, .null, 0),
  (4, .iload_n 2, 1, 5, 0, .null, 0),
  (5, .invokevirtual 74, 3, 8, 0, .null, 0),
  (8, .i2l, 1, 9, 0, .null, 0),
  (9, .lastore, 1, 10, 0, .null, 0),
  (10, .goto 11, 3, 13, 21, .null, 0),
  (13, .astore 4, 2, 15, 0, .null, 0),
  (15, .iconst 1, 1, 16, 0, .int 1, 0),
  (16, .ireturn, 1, 17, 0, .null, 0),
  (17, .astore 4, 2, 19, 0, .null, 0),
  (19, .iconst 2, 1, 20, 0, .int 2, 0),
  (20, .ireturn, 1, 21, 0, .null, 0),
  (21, .iconst 0, 1, 22, 0, .int 0, 0),
  (22, .ireturn, 1, 23, 0, .null, 0)])
set_option maxRecDepth 100000 in
theorem mL_takeBack_ok : xOK mL_takeBack = true := by decide +kernel
def mL_settle : XM := (⟨"ChannelNetLaw", "settle", "(LChannelNet;I[J)I"⟩, method_20_code, 4, (Option.some FieldType.int), [(0, 9, 12, 13), (0, 9, 15, 17)], [
  (0, .aload_n 2, 1, 1, 0, .null, 0),
  (1, .iconst 0, 1, 2, 0, .int 0, 0),
  (2, .aload_n 0, 1, 3, 0, .null, 0),
  (3, .iload_n 1, 1, 4, 0, .null, 0),
  (4, .invokevirtual 77, 3, 7, 0, .null, 0),
  (7, .i2l, 1, 8, 0, .null, 0),
  (8, .lastore, 1, 9, 0, .null, 0),
  (9, .goto 9, 3, 12, 18, .null, 0),
  (12, .astore_n 3, 1, 13, 0, .null, 0),
  (13, .iconst 1, 1, 14, 0, .int 1, 0),
  (14, .ireturn, 1, 15, 0, .null, 0),
  (15, .astore_n 3, 1, 16, 0, .null, 0),
  (16, .iconst 2, 1, 17, 0, .int 2, 0),
  (17, .ireturn, 1, 18, 0, .null, 0),
  (18, .iconst 0, 1, 19, 0, .int 0, 0),
  (19, .ireturn, 1, 20, 0, .null, 0)])
set_option maxRecDepth 100000 in
theorem mL_settle_ok : xOK mL_settle = true := by decide +kernel
def mL_watch : XM := (⟨"ChannelNetLaw", "watch", "(LChannelNet;IZ)I"⟩, method_21_code, 4, (Option.some FieldType.int), [(0, 6, 9, 13)], [
  (0, .aload_n 0, 1, 1, 0, .null, 0),
  (1, .iload_n 1, 1, 2, 0, .null, 0),
  (2, .iload_n 2, 1, 3, 0, .null, 0),
  (3, .invokevirtual 80, 3, 6, 0, .null, 0),
  (6, .goto 6, 3, 9, 12, .null, 0),
  (9, .astore_n 3, 1, 10, 0, .null, 0),
  (10, .iconst 1, 1, 11, 0, .int 1, 0),
  (11, .ireturn, 1, 12, 0, .null, 0),
  (12, .iconst 0, 1, 13, 0, .int 0, 0),
  (13, .ireturn, 1, 14, 0, .null, 0)])
set_option maxRecDepth 100000 in
theorem mL_watch_ok : xOK mL_watch = true := by decide +kernel
def mL_grow : XM := (⟨"ChannelNetLaw", "grow", "(LChannelNet;I[J)I"⟩, method_22_code, 4, (Option.some FieldType.int), [(0, 9, 12, 15)], [
  (0, .aload_n 2, 1, 1, 0, .null, 0),
  (1, .iconst 0, 1, 2, 0, .int 0, 0),
  (2, .aload_n 0, 1, 3, 0, .null, 0),
  (3, .iload_n 1, 1, 4, 0, .null, 0),
  (4, .invokevirtual 84, 3, 7, 0, .null, 0),
  (7, .i2l, 1, 8, 0, .null, 0),
  (8, .lastore, 1, 9, 0, .null, 0),
  (9, .goto 6, 3, 12, 15, .null, 0),
  (12, .astore_n 3, 1, 13, 0, .null, 0),
  (13, .iconst 1, 1, 14, 0, .int 1, 0),
  (14, .ireturn, 1, 15, 0, .null, 0),
  (15, .iconst 0, 1, 16, 0, .int 0, 0),
  (16, .ireturn, 1, 17, 0, .null, 0)])
set_option maxRecDepth 100000 in
theorem mL_grow_ok : xOK mL_grow = true := by decide +kernel
def mL_coins : XM := (⟨"ChannelNetLaw", "coins", "(LChannelNet;I[J)I"⟩, method_23_code, 4, (Option.some FieldType.int), [(0, 9, 12, 13)], [
  (0, .aload_n 2, 1, 1, 0, .null, 0),
  (1, .iconst 0, 1, 2, 0, .int 0, 0),
  (2, .aload_n 0, 1, 3, 0, .null, 0),
  (3, .iload_n 1, 1, 4, 0, .null, 0),
  (4, .invokevirtual 87, 3, 7, 0, .null, 0),
  (7, .i2l, 1, 8, 0, .null, 0),
  (8, .lastore, 1, 9, 0, .null, 0),
  (9, .goto 6, 3, 12, 15, .null, 0),
  (12, .astore_n 3, 1, 13, 0, .null, 0),
  (13, .iconst 1, 1, 14, 0, .int 1, 0),
  (14, .ireturn, 1, 15, 0, .null, 0),
  (15, .iconst 0, 1, 16, 0, .int 0, 0),
  (16, .ireturn, 1, 17, 0, .null, 0)])
set_option maxRecDepth 100000 in
theorem mL_coins_ok : xOK mL_coins = true := by decide +kernel
def mL_channel : XM := (⟨"ChannelNetLaw", "channel", "(LChannelNet;II[J)I"⟩, method_24_code, 5, (Option.some FieldType.int), [(0, 10, 13, 13), (0, 10, 17, 15)], [
  (0, .aload_n 3, 1, 1, 0, .null, 0),
  (1, .iconst 0, 1, 2, 0, .int 0, 0),
  (2, .aload_n 0, 1, 3, 0, .null, 0),
  (3, .iload_n 1, 1, 4, 0, .null, 0),
  (4, .iload_n 2, 1, 5, 0, .null, 0),
  (5, .invokevirtual 90, 3, 8, 0, .null, 0),
  (8, .i2l, 1, 9, 0, .null, 0),
  (9, .lastore, 1, 10, 0, .null, 0),
  (10, .goto 11, 3, 13, 21, .null, 0),
  (13, .astore 4, 2, 15, 0, .null, 0),
  (15, .iconst 1, 1, 16, 0, .int 1, 0),
  (16, .ireturn, 1, 17, 0, .null, 0),
  (17, .astore 4, 2, 19, 0, .null, 0),
  (19, .iconst 2, 1, 20, 0, .int 2, 0),
  (20, .ireturn, 1, 21, 0, .null, 0),
  (21, .iconst 0, 1, 22, 0, .int 0, 0),
  (22, .ireturn, 1, 23, 0, .null, 0)])
set_option maxRecDepth 100000 in
theorem mL_channel_ok : xOK mL_channel = true := by decide +kernel
def mL_state : XM := (⟨"ChannelNetLaw", "state", "(LChannelNet;III[J)I"⟩, method_25_code, 6, (Option.some FieldType.int), [(0, 12, 15, 13), (0, 12, 19, 15)], [
  (0, .aload 4, 2, 2, 0, .null, 0),
  (2, .iconst 0, 1, 3, 0, .int 0, 0),
  (3, .aload_n 0, 1, 4, 0, .null, 0),
  (4, .iload_n 1, 1, 5, 0, .null, 0),
  (5, .iload_n 2, 1, 6, 0, .null, 0),
  (6, .iload_n 3, 1, 7, 0, .null, 0),
  (7, .invokevirtual 93, 3, 10, 0, .null, 0),
  (10, .i2l, 1, 11, 0, .null, 0),
  (11, .lastore, 1, 12, 0, .null, 0),
  (12, .goto 11, 3, 15, 23, .null, 0),
  (15, .astore 5, 2, 17, 0, .null, 0),
  (17, .iconst 1, 1, 18, 0, .int 1, 0),
  (18, .ireturn, 1, 19, 0, .null, 0),
  (19, .astore 5, 2, 21, 0, .null, 0),
  (21, .iconst 2, 1, 22, 0, .int 2, 0),
  (22, .ireturn, 1, 23, 0, .null, 0),
  (23, .iconst 0, 1, 24, 0, .int 0, 0),
  (24, .ireturn, 1, 25, 0, .null, 0)])
set_option maxRecDepth 100000 in
theorem mL_state_ok : xOK mL_state = true := by decide +kernel
def mL_made : XM := (⟨"ChannelNetLaw", "made", "(LChannelNet;III[J)I"⟩, method_26_code, 6, (Option.some FieldType.int), [(0, 12, 15, 13), (0, 12, 19, 15)], [
  (0, .aload 4, 2, 2, 0, .null, 0),
  (2, .iconst 0, 1, 3, 0, .int 0, 0),
  (3, .aload_n 0, 1, 4, 0, .null, 0),
  (4, .iload_n 1, 1, 5, 0, .null, 0),
  (5, .iload_n 2, 1, 6, 0, .null, 0),
  (6, .iload_n 3, 1, 7, 0, .null, 0),
  (7, .invokevirtual 96, 3, 10, 0, .null, 0),
  (10, .i2l, 1, 11, 0, .null, 0),
  (11, .lastore, 1, 12, 0, .null, 0),
  (12, .goto 11, 3, 15, 23, .null, 0),
  (15, .astore 5, 2, 17, 0, .null, 0),
  (17, .iconst 1, 1, 18, 0, .int 1, 0),
  (18, .ireturn, 1, 19, 0, .null, 0),
  (19, .astore 5, 2, 21, 0, .null, 0),
  (21, .iconst 2, 1, 22, 0, .int 2, 0),
  (22, .ireturn, 1, 23, 0, .null, 0),
  (23, .iconst 0, 1, 24, 0, .int 0, 0),
  (24, .ireturn, 1, 25, 0, .null, 0)])
set_option maxRecDepth 100000 in
theorem mL_made_ok : xOK mL_made = true := by decide +kernel
