theorem dL_plug_0 : decode cL_plug 0 = .ok (.aload 8, 2) := by decide +kernel
theorem dL_plug_2 : decode cL_plug 2 = .ok (.iconst 0, 1) := by decide +kernel
theorem dL_plug_3 : decode cL_plug 3 = .ok (.aload_n 0, 1) := by decide +kernel
theorem dL_plug_4 : decode cL_plug 4 = .ok (.iload_n 1, 1) := by decide +kernel
theorem dL_plug_5 : decode cL_plug 5 = .ok (.iload_n 2, 1) := by decide +kernel
theorem dL_plug_6 : decode cL_plug 6 = .ok (.iload_n 3, 1) := by decide +kernel
theorem dL_plug_7 : decode cL_plug 7 = .ok (.iload 4, 2) := by decide +kernel
theorem dL_plug_9 : decode cL_plug 9 = .ok (.iload 5, 2) := by decide +kernel
theorem dL_plug_11 : decode cL_plug 11 = .ok (.iload 6, 2) := by decide +kernel
theorem dL_plug_13 : decode cL_plug 13 = .ok (.iload 7, 2) := by decide +kernel
theorem dL_plug_15 : decode cL_plug 15 = .ok (.invokevirtual 7, 3) := by decide +kernel
theorem dL_plug_18 : decode cL_plug 18 = .ok (.i2l, 1) := by decide +kernel
theorem dL_plug_19 : decode cL_plug 19 = .ok (.lastore, 1) := by decide +kernel
theorem dL_plug_20 : decode cL_plug 20 = .ok (.goto 15, 3) := by decide +kernel
theorem dL_plug_23 : decode cL_plug 23 = .ok (.astore 9, 2) := by decide +kernel
theorem dL_plug_25 : decode cL_plug 25 = .ok (.iconst 1, 1) := by decide +kernel
theorem dL_plug_26 : decode cL_plug 26 = .ok (.ireturn, 1) := by decide +kernel
theorem dL_plug_27 : decode cL_plug 27 = .ok (.astore 9, 2) := by decide +kernel
theorem dL_plug_29 : decode cL_plug 29 = .ok (.iconst 2, 1) := by decide +kernel
theorem dL_plug_30 : decode cL_plug 30 = .ok (.ireturn, 1) := by decide +kernel
theorem dL_plug_31 : decode cL_plug 31 = .ok (.astore 9, 2) := by decide +kernel
theorem dL_plug_33 : decode cL_plug 33 = .ok (.iconst 3, 1) := by decide +kernel
theorem dL_plug_34 : decode cL_plug 34 = .ok (.ireturn, 1) := by decide +kernel
theorem dL_plug_35 : decode cL_plug 35 = .ok (.iconst 0, 1) := by decide +kernel
theorem dL_plug_36 : decode cL_plug 36 = .ok (.ireturn, 1) := by decide +kernel
theorem dL_unplug_0 : decode cL_unplug 0 = .ok (.aload_n 2, 1) := by decide +kernel
theorem dL_unplug_1 : decode cL_unplug 1 = .ok (.iconst 0, 1) := by decide +kernel
theorem dL_unplug_2 : decode cL_unplug 2 = .ok (.aload_n 0, 1) := by decide +kernel
theorem dL_unplug_3 : decode cL_unplug 3 = .ok (.iload_n 1, 1) := by decide +kernel
theorem dL_unplug_4 : decode cL_unplug 4 = .ok (.invokevirtual 19, 3) := by decide +kernel
theorem dL_unplug_7 : decode cL_unplug 7 = .ok (.i2l, 1) := by decide +kernel
theorem dL_unplug_8 : decode cL_unplug 8 = .ok (.lastore, 1) := by decide +kernel
theorem dL_unplug_9 : decode cL_unplug 9 = .ok (.goto 9, 3) := by decide +kernel
theorem dL_unplug_12 : decode cL_unplug 12 = .ok (.astore_n 3, 1) := by decide +kernel
theorem dL_unplug_13 : decode cL_unplug 13 = .ok (.iconst 1, 1) := by decide +kernel
theorem dL_unplug_14 : decode cL_unplug 14 = .ok (.ireturn, 1) := by decide +kernel
theorem dL_unplug_15 : decode cL_unplug 15 = .ok (.astore_n 3, 1) := by decide +kernel
theorem dL_unplug_16 : decode cL_unplug 16 = .ok (.iconst 2, 1) := by decide +kernel
theorem dL_unplug_17 : decode cL_unplug 17 = .ok (.ireturn, 1) := by decide +kernel
theorem dL_unplug_18 : decode cL_unplug 18 = .ok (.iconst 0, 1) := by decide +kernel
theorem dL_unplug_19 : decode cL_unplug 19 = .ok (.ireturn, 1) := by decide +kernel
theorem dL_driver_0 : decode cL_driver 0 = .ok (.aload 5, 2) := by decide +kernel
theorem dL_driver_2 : decode cL_driver 2 = .ok (.iconst 0, 1) := by decide +kernel
theorem dL_driver_3 : decode cL_driver 3 = .ok (.aload_n 0, 1) := by decide +kernel
theorem dL_driver_4 : decode cL_driver 4 = .ok (.iload_n 1, 1) := by decide +kernel
theorem dL_driver_5 : decode cL_driver 5 = .ok (.iload_n 2, 1) := by decide +kernel
theorem dL_driver_6 : decode cL_driver 6 = .ok (.iload_n 3, 1) := by decide +kernel
theorem dL_driver_7 : decode cL_driver 7 = .ok (.iload 4, 2) := by decide +kernel
theorem dL_driver_9 : decode cL_driver 9 = .ok (.invokevirtual 23, 3) := by decide +kernel
theorem dL_driver_12 : decode cL_driver 12 = .ok (.i2l, 1) := by decide +kernel
theorem dL_driver_13 : decode cL_driver 13 = .ok (.lastore, 1) := by decide +kernel
theorem dL_driver_14 : decode cL_driver 14 = .ok (.goto 11, 3) := by decide +kernel
theorem dL_driver_17 : decode cL_driver 17 = .ok (.astore 6, 2) := by decide +kernel
theorem dL_driver_19 : decode cL_driver 19 = .ok (.iconst 1, 1) := by decide +kernel
theorem dL_driver_20 : decode cL_driver 20 = .ok (.ireturn, 1) := by decide +kernel
theorem dL_driver_21 : decode cL_driver 21 = .ok (.astore 6, 2) := by decide +kernel
theorem dL_driver_23 : decode cL_driver 23 = .ok (.iconst 2, 1) := by decide +kernel
theorem dL_driver_24 : decode cL_driver 24 = .ok (.ireturn, 1) := by decide +kernel
theorem dL_driver_25 : decode cL_driver 25 = .ok (.iconst 0, 1) := by decide +kernel
theorem dL_driver_26 : decode cL_driver 26 = .ok (.ireturn, 1) := by decide +kernel
theorem dL_load_0 : decode cL_load 0 = .ok (.aload_n 3, 1) := by decide +kernel
theorem dL_load_1 : decode cL_load 1 = .ok (.iconst 0, 1) := by decide +kernel
theorem dL_load_2 : decode cL_load 2 = .ok (.aload_n 0, 1) := by decide +kernel
theorem dL_load_3 : decode cL_load 3 = .ok (.iload_n 1, 1) := by decide +kernel
theorem dL_load_4 : decode cL_load 4 = .ok (.iload_n 2, 1) := by decide +kernel
theorem dL_load_5 : decode cL_load 5 = .ok (.invokevirtual 27, 3) := by decide +kernel
theorem dL_load_8 : decode cL_load 8 = .ok (.i2l, 1) := by decide +kernel
theorem dL_load_9 : decode cL_load 9 = .ok (.lastore, 1) := by decide +kernel
theorem dL_load_10 : decode cL_load 10 = .ok (.goto 11, 3) := by decide +kernel
theorem dL_load_13 : decode cL_load 13 = .ok (.astore 4, 2) := by decide +kernel
theorem dL_load_15 : decode cL_load 15 = .ok (.iconst 1, 1) := by decide +kernel
theorem dL_load_16 : decode cL_load 16 = .ok (.ireturn, 1) := by decide +kernel
theorem dL_load_17 : decode cL_load 17 = .ok (.astore 4, 2) := by decide +kernel
theorem dL_load_19 : decode cL_load 19 = .ok (.iconst 2, 1) := by decide +kernel
theorem dL_load_20 : decode cL_load 20 = .ok (.ireturn, 1) := by decide +kernel
theorem dL_load_21 : decode cL_load 21 = .ok (.iconst 0, 1) := by decide +kernel
theorem dL_load_22 : decode cL_load 22 = .ok (.ireturn, 1) := by decide +kernel
theorem dL_unbind_0 : decode cL_unbind 0 = .ok (.aload_n 2, 1) := by decide +kernel
theorem dL_unbind_1 : decode cL_unbind 1 = .ok (.iconst 0, 1) := by decide +kernel
theorem dL_unbind_2 : decode cL_unbind 2 = .ok (.aload_n 0, 1) := by decide +kernel
theorem dL_unbind_3 : decode cL_unbind 3 = .ok (.iload_n 1, 1) := by decide +kernel
theorem dL_unbind_4 : decode cL_unbind 4 = .ok (.invokevirtual 31, 3) := by decide +kernel
theorem dL_unbind_7 : decode cL_unbind 7 = .ok (.i2l, 1) := by decide +kernel
theorem dL_unbind_8 : decode cL_unbind 8 = .ok (.lastore, 1) := by decide +kernel
theorem dL_unbind_9 : decode cL_unbind 9 = .ok (.goto 9, 3) := by decide +kernel
theorem dL_unbind_12 : decode cL_unbind 12 = .ok (.astore_n 3, 1) := by decide +kernel
theorem dL_unbind_13 : decode cL_unbind 13 = .ok (.iconst 1, 1) := by decide +kernel
theorem dL_unbind_14 : decode cL_unbind 14 = .ok (.ireturn, 1) := by decide +kernel
theorem dL_unbind_15 : decode cL_unbind 15 = .ok (.astore_n 3, 1) := by decide +kernel
theorem dL_unbind_16 : decode cL_unbind 16 = .ok (.iconst 2, 1) := by decide +kernel
theorem dL_unbind_17 : decode cL_unbind 17 = .ok (.ireturn, 1) := by decide +kernel
theorem dL_unbind_18 : decode cL_unbind 18 = .ok (.iconst 0, 1) := by decide +kernel
theorem dL_unbind_19 : decode cL_unbind 19 = .ok (.ireturn, 1) := by decide +kernel
theorem dL_bind_0 : decode cL_bind 0 = .ok (.aload_n 2, 1) := by decide +kernel
theorem dL_bind_1 : decode cL_bind 1 = .ok (.iconst 0, 1) := by decide +kernel
theorem dL_bind_2 : decode cL_bind 2 = .ok (.aload_n 0, 1) := by decide +kernel
theorem dL_bind_3 : decode cL_bind 3 = .ok (.iload_n 1, 1) := by decide +kernel
theorem dL_bind_4 : decode cL_bind 4 = .ok (.invokevirtual 34, 3) := by decide +kernel
theorem dL_bind_7 : decode cL_bind 7 = .ok (.i2l, 1) := by decide +kernel
theorem dL_bind_8 : decode cL_bind 8 = .ok (.lastore, 1) := by decide +kernel
theorem dL_bind_9 : decode cL_bind 9 = .ok (.goto 9, 3) := by decide +kernel
theorem dL_bind_12 : decode cL_bind 12 = .ok (.astore_n 3, 1) := by decide +kernel
theorem dL_bind_13 : decode cL_bind 13 = .ok (.iconst 1, 1) := by decide +kernel
theorem dL_bind_14 : decode cL_bind 14 = .ok (.ireturn, 1) := by decide +kernel
theorem dL_bind_15 : decode cL_bind 15 = .ok (.astore_n 3, 1) := by decide +kernel
theorem dL_bind_16 : decode cL_bind 16 = .ok (.iconst 2, 1) := by decide +kernel
theorem dL_bind_17 : decode cL_bind 17 = .ok (.ireturn, 1) := by decide +kernel
theorem dL_bind_18 : decode cL_bind 18 = .ok (.iconst 0, 1) := by decide +kernel
theorem dL_bind_19 : decode cL_bind 19 = .ok (.ireturn, 1) := by decide +kernel
theorem dL_reset_0 : decode cL_reset 0 = .ok (.aload_n 2, 1) := by decide +kernel
theorem dL_reset_1 : decode cL_reset 1 = .ok (.iconst 0, 1) := by decide +kernel
theorem dL_reset_2 : decode cL_reset 2 = .ok (.aload_n 0, 1) := by decide +kernel
theorem dL_reset_3 : decode cL_reset 3 = .ok (.iload_n 1, 1) := by decide +kernel
theorem dL_reset_4 : decode cL_reset 4 = .ok (.invokevirtual 37, 3) := by decide +kernel
theorem dL_reset_7 : decode cL_reset 7 = .ok (.i2l, 1) := by decide +kernel
theorem dL_reset_8 : decode cL_reset 8 = .ok (.lastore, 1) := by decide +kernel
theorem dL_reset_9 : decode cL_reset 9 = .ok (.goto 9, 3) := by decide +kernel
theorem dL_reset_12 : decode cL_reset 12 = .ok (.astore_n 3, 1) := by decide +kernel
theorem dL_reset_13 : decode cL_reset 13 = .ok (.iconst 1, 1) := by decide +kernel
theorem dL_reset_14 : decode cL_reset 14 = .ok (.ireturn, 1) := by decide +kernel
theorem dL_reset_15 : decode cL_reset 15 = .ok (.astore_n 3, 1) := by decide +kernel
theorem dL_reset_16 : decode cL_reset 16 = .ok (.iconst 2, 1) := by decide +kernel
theorem dL_reset_17 : decode cL_reset 17 = .ok (.ireturn, 1) := by decide +kernel
theorem dL_reset_18 : decode cL_reset 18 = .ok (.iconst 0, 1) := by decide +kernel
theorem dL_reset_19 : decode cL_reset 19 = .ok (.ireturn, 1) := by decide +kernel
theorem dL_open_0 : decode cL_open 0 = .ok (.aload_n 2, 1) := by decide +kernel
theorem dL_open_1 : decode cL_open 1 = .ok (.iconst 0, 1) := by decide +kernel
theorem dL_open_2 : decode cL_open 2 = .ok (.aload_n 0, 1) := by decide +kernel
theorem dL_open_3 : decode cL_open 3 = .ok (.iload_n 1, 1) := by decide +kernel
theorem dL_open_4 : decode cL_open 4 = .ok (.invokevirtual 40, 3) := by decide +kernel
theorem dL_open_7 : decode cL_open 7 = .ok (.i2l, 1) := by decide +kernel
theorem dL_open_8 : decode cL_open 8 = .ok (.lastore, 1) := by decide +kernel
theorem dL_open_9 : decode cL_open 9 = .ok (.goto 9, 3) := by decide +kernel
theorem dL_open_12 : decode cL_open 12 = .ok (.astore_n 3, 1) := by decide +kernel
theorem dL_open_13 : decode cL_open 13 = .ok (.iconst 1, 1) := by decide +kernel
theorem dL_open_14 : decode cL_open 14 = .ok (.ireturn, 1) := by decide +kernel
theorem dL_open_15 : decode cL_open 15 = .ok (.astore_n 3, 1) := by decide +kernel
theorem dL_open_16 : decode cL_open 16 = .ok (.iconst 2, 1) := by decide +kernel
theorem dL_open_17 : decode cL_open 17 = .ok (.ireturn, 1) := by decide +kernel
theorem dL_open_18 : decode cL_open 18 = .ok (.iconst 0, 1) := by decide +kernel
theorem dL_open_19 : decode cL_open 19 = .ok (.ireturn, 1) := by decide +kernel
theorem dL_close_0 : decode cL_close 0 = .ok (.aload_n 2, 1) := by decide +kernel
theorem dL_close_1 : decode cL_close 1 = .ok (.iconst 0, 1) := by decide +kernel
theorem dL_close_2 : decode cL_close 2 = .ok (.aload_n 0, 1) := by decide +kernel
theorem dL_close_3 : decode cL_close 3 = .ok (.iload_n 1, 1) := by decide +kernel
theorem dL_close_4 : decode cL_close 4 = .ok (.invokevirtual 43, 3) := by decide +kernel
theorem dL_close_7 : decode cL_close 7 = .ok (.ifCond .eq 7, 3) := by decide +kernel
theorem dL_close_10 : decode cL_close 10 = .ok (.lconst 1, 1) := by decide +kernel
theorem dL_close_11 : decode cL_close 11 = .ok (.goto 4, 3) := by decide +kernel
theorem dL_close_14 : decode cL_close 14 = .ok (.lconst 0, 1) := by decide +kernel
theorem dL_close_15 : decode cL_close 15 = .ok (.lastore, 1) := by decide +kernel
theorem dL_close_16 : decode cL_close 16 = .ok (.goto 9, 3) := by decide +kernel
theorem dL_close_19 : decode cL_close 19 = .ok (.astore_n 3, 1) := by decide +kernel
theorem dL_close_20 : decode cL_close 20 = .ok (.iconst 1, 1) := by decide +kernel
theorem dL_close_21 : decode cL_close 21 = .ok (.ireturn, 1) := by decide +kernel
theorem dL_close_22 : decode cL_close 22 = .ok (.astore_n 3, 1) := by decide +kernel
theorem dL_close_23 : decode cL_close 23 = .ok (.iconst 2, 1) := by decide +kernel
theorem dL_close_24 : decode cL_close 24 = .ok (.ireturn, 1) := by decide +kernel
theorem dL_close_25 : decode cL_close 25 = .ok (.iconst 0, 1) := by decide +kernel
theorem dL_close_26 : decode cL_close 26 = .ok (.ireturn, 1) := by decide +kernel
theorem dL_call_0 : decode cL_call 0 = .ok (.aload_n 3, 1) := by decide +kernel
theorem dL_call_1 : decode cL_call 1 = .ok (.iconst 0, 1) := by decide +kernel
theorem dL_call_2 : decode cL_call 2 = .ok (.aload_n 0, 1) := by decide +kernel
theorem dL_call_3 : decode cL_call 3 = .ok (.iload_n 1, 1) := by decide +kernel
theorem dL_call_4 : decode cL_call 4 = .ok (.iload_n 2, 1) := by decide +kernel
theorem dL_call_5 : decode cL_call 5 = .ok (.invokevirtual 47, 3) := by decide +kernel
theorem dL_call_8 : decode cL_call 8 = .ok (.i2l, 1) := by decide +kernel
theorem dL_call_9 : decode cL_call 9 = .ok (.lastore, 1) := by decide +kernel
theorem dL_call_10 : decode cL_call 10 = .ok (.goto 15, 3) := by decide +kernel
theorem dL_call_13 : decode cL_call 13 = .ok (.astore 4, 2) := by decide +kernel
theorem dL_call_15 : decode cL_call 15 = .ok (.iconst 1, 1) := by decide +kernel
theorem dL_call_16 : decode cL_call 16 = .ok (.ireturn, 1) := by decide +kernel
theorem dL_call_17 : decode cL_call 17 = .ok (.astore 4, 2) := by decide +kernel
theorem dL_call_19 : decode cL_call 19 = .ok (.iconst 2, 1) := by decide +kernel
theorem dL_call_20 : decode cL_call 20 = .ok (.ireturn, 1) := by decide +kernel
theorem dL_call_21 : decode cL_call 21 = .ok (.astore 4, 2) := by decide +kernel
theorem dL_call_23 : decode cL_call 23 = .ok (.iconst 3, 1) := by decide +kernel
theorem dL_call_24 : decode cL_call 24 = .ok (.ireturn, 1) := by decide +kernel
theorem dL_call_25 : decode cL_call 25 = .ok (.iconst 0, 1) := by decide +kernel
theorem dL_call_26 : decode cL_call 26 = .ok (.ireturn, 1) := by decide +kernel
theorem dL_set_0 : decode cL_set 0 = .ok (.aload_n 3, 1) := by decide +kernel
theorem dL_set_1 : decode cL_set 1 = .ok (.iconst 0, 1) := by decide +kernel
theorem dL_set_2 : decode cL_set 2 = .ok (.aload_n 0, 1) := by decide +kernel
theorem dL_set_3 : decode cL_set 3 = .ok (.iload_n 1, 1) := by decide +kernel
theorem dL_set_4 : decode cL_set 4 = .ok (.iload_n 2, 1) := by decide +kernel
theorem dL_set_5 : decode cL_set 5 = .ok (.invokevirtual 50, 3) := by decide +kernel
theorem dL_set_8 : decode cL_set 8 = .ok (.i2l, 1) := by decide +kernel
theorem dL_set_9 : decode cL_set 9 = .ok (.lastore, 1) := by decide +kernel
theorem dL_set_10 : decode cL_set 10 = .ok (.goto 15, 3) := by decide +kernel
theorem dL_set_13 : decode cL_set 13 = .ok (.astore 4, 2) := by decide +kernel
theorem dL_set_15 : decode cL_set 15 = .ok (.iconst 1, 1) := by decide +kernel
theorem dL_set_16 : decode cL_set 16 = .ok (.ireturn, 1) := by decide +kernel
theorem dL_set_17 : decode cL_set 17 = .ok (.astore 4, 2) := by decide +kernel
theorem dL_set_19 : decode cL_set 19 = .ok (.iconst 2, 1) := by decide +kernel
theorem dL_set_20 : decode cL_set 20 = .ok (.ireturn, 1) := by decide +kernel
theorem dL_set_21 : decode cL_set 21 = .ok (.astore 4, 2) := by decide +kernel
theorem dL_set_23 : decode cL_set 23 = .ok (.iconst 3, 1) := by decide +kernel
theorem dL_set_24 : decode cL_set 24 = .ok (.ireturn, 1) := by decide +kernel
theorem dL_set_25 : decode cL_set 25 = .ok (.iconst 0, 1) := by decide +kernel
theorem dL_set_26 : decode cL_set 26 = .ok (.ireturn, 1) := by decide +kernel
theorem dL_get_0 : decode cL_get 0 = .ok (.aload_n 2, 1) := by decide +kernel
theorem dL_get_1 : decode cL_get 1 = .ok (.iconst 0, 1) := by decide +kernel
theorem dL_get_2 : decode cL_get 2 = .ok (.aload_n 0, 1) := by decide +kernel
theorem dL_get_3 : decode cL_get 3 = .ok (.iload_n 1, 1) := by decide +kernel
theorem dL_get_4 : decode cL_get 4 = .ok (.invokevirtual 53, 3) := by decide +kernel
theorem dL_get_7 : decode cL_get 7 = .ok (.i2l, 1) := by decide +kernel
theorem dL_get_8 : decode cL_get 8 = .ok (.lastore, 1) := by decide +kernel
theorem dL_get_9 : decode cL_get 9 = .ok (.goto 9, 3) := by decide +kernel
theorem dL_get_12 : decode cL_get 12 = .ok (.astore_n 3, 1) := by decide +kernel
theorem dL_get_13 : decode cL_get 13 = .ok (.iconst 1, 1) := by decide +kernel
theorem dL_get_14 : decode cL_get 14 = .ok (.ireturn, 1) := by decide +kernel
theorem dL_get_15 : decode cL_get 15 = .ok (.astore_n 3, 1) := by decide +kernel
theorem dL_get_16 : decode cL_get 16 = .ok (.iconst 2, 1) := by decide +kernel
theorem dL_get_17 : decode cL_get 17 = .ok (.ireturn, 1) := by decide +kernel
theorem dL_get_18 : decode cL_get 18 = .ok (.iconst 0, 1) := by decide +kernel
theorem dL_get_19 : decode cL_get 19 = .ok (.ireturn, 1) := by decide +kernel
theorem dL_map_0 : decode cL_map 0 = .ok (.aload_n 3, 1) := by decide +kernel
theorem dL_map_1 : decode cL_map 1 = .ok (.iconst 0, 1) := by decide +kernel
theorem dL_map_2 : decode cL_map 2 = .ok (.aload_n 0, 1) := by decide +kernel
theorem dL_map_3 : decode cL_map 3 = .ok (.iload_n 1, 1) := by decide +kernel
theorem dL_map_4 : decode cL_map 4 = .ok (.iload_n 2, 1) := by decide +kernel
theorem dL_map_5 : decode cL_map 5 = .ok (.invokevirtual 56, 3) := by decide +kernel
theorem dL_map_8 : decode cL_map 8 = .ok (.i2l, 1) := by decide +kernel
theorem dL_map_9 : decode cL_map 9 = .ok (.lastore, 1) := by decide +kernel
theorem dL_map_10 : decode cL_map 10 = .ok (.goto 15, 3) := by decide +kernel
theorem dL_map_13 : decode cL_map 13 = .ok (.astore 4, 2) := by decide +kernel
theorem dL_map_15 : decode cL_map 15 = .ok (.iconst 1, 1) := by decide +kernel
theorem dL_map_16 : decode cL_map 16 = .ok (.ireturn, 1) := by decide +kernel
theorem dL_map_17 : decode cL_map 17 = .ok (.astore 4, 2) := by decide +kernel
theorem dL_map_19 : decode cL_map 19 = .ok (.iconst 2, 1) := by decide +kernel
theorem dL_map_20 : decode cL_map 20 = .ok (.ireturn, 1) := by decide +kernel
theorem dL_map_21 : decode cL_map 21 = .ok (.astore 4, 2) := by decide +kernel
theorem dL_map_23 : decode cL_map 23 = .ok (.iconst 3, 1) := by decide +kernel
theorem dL_map_24 : decode cL_map 24 = .ok (.ireturn, 1) := by decide +kernel
theorem dL_map_25 : decode cL_map 25 = .ok (.iconst 0, 1) := by decide +kernel
theorem dL_map_26 : decode cL_map 26 = .ok (.ireturn, 1) := by decide +kernel
theorem dL_unmap_0 : decode cL_unmap 0 = .ok (.aload_n 3, 1) := by decide +kernel
theorem dL_unmap_1 : decode cL_unmap 1 = .ok (.iconst 0, 1) := by decide +kernel
theorem dL_unmap_2 : decode cL_unmap 2 = .ok (.aload_n 0, 1) := by decide +kernel
theorem dL_unmap_3 : decode cL_unmap 3 = .ok (.iload_n 1, 1) := by decide +kernel
theorem dL_unmap_4 : decode cL_unmap 4 = .ok (.iload_n 2, 1) := by decide +kernel
theorem dL_unmap_5 : decode cL_unmap 5 = .ok (.invokevirtual 59, 3) := by decide +kernel
theorem dL_unmap_8 : decode cL_unmap 8 = .ok (.i2l, 1) := by decide +kernel
theorem dL_unmap_9 : decode cL_unmap 9 = .ok (.lastore, 1) := by decide +kernel
theorem dL_unmap_10 : decode cL_unmap 10 = .ok (.goto 11, 3) := by decide +kernel
theorem dL_unmap_13 : decode cL_unmap 13 = .ok (.astore 4, 2) := by decide +kernel
theorem dL_unmap_15 : decode cL_unmap 15 = .ok (.iconst 1, 1) := by decide +kernel
theorem dL_unmap_16 : decode cL_unmap 16 = .ok (.ireturn, 1) := by decide +kernel
theorem dL_unmap_17 : decode cL_unmap 17 = .ok (.astore 4, 2) := by decide +kernel
theorem dL_unmap_19 : decode cL_unmap 19 = .ok (.iconst 2, 1) := by decide +kernel
theorem dL_unmap_20 : decode cL_unmap 20 = .ok (.ireturn, 1) := by decide +kernel
theorem dL_unmap_21 : decode cL_unmap 21 = .ok (.iconst 0, 1) := by decide +kernel
theorem dL_unmap_22 : decode cL_unmap 22 = .ok (.ireturn, 1) := by decide +kernel
theorem dL_access_0 : decode cL_access 0 = .ok (.aload_n 3, 1) := by decide +kernel
theorem dL_access_1 : decode cL_access 1 = .ok (.iconst 0, 1) := by decide +kernel
theorem dL_access_2 : decode cL_access 2 = .ok (.aload_n 0, 1) := by decide +kernel
theorem dL_access_3 : decode cL_access 3 = .ok (.iload_n 1, 1) := by decide +kernel
theorem dL_access_4 : decode cL_access 4 = .ok (.iload_n 2, 1) := by decide +kernel
theorem dL_access_5 : decode cL_access 5 = .ok (.invokevirtual 62, 3) := by decide +kernel
theorem dL_access_8 : decode cL_access 8 = .ok (.i2l, 1) := by decide +kernel
theorem dL_access_9 : decode cL_access 9 = .ok (.lastore, 1) := by decide +kernel
theorem dL_access_10 : decode cL_access 10 = .ok (.goto 11, 3) := by decide +kernel
theorem dL_access_13 : decode cL_access 13 = .ok (.astore 4, 2) := by decide +kernel
theorem dL_access_15 : decode cL_access 15 = .ok (.iconst 1, 1) := by decide +kernel
theorem dL_access_16 : decode cL_access 16 = .ok (.ireturn, 1) := by decide +kernel
theorem dL_access_17 : decode cL_access 17 = .ok (.astore 4, 2) := by decide +kernel
theorem dL_access_19 : decode cL_access 19 = .ok (.iconst 2, 1) := by decide +kernel
theorem dL_access_20 : decode cL_access 20 = .ok (.ireturn, 1) := by decide +kernel
theorem dL_access_21 : decode cL_access 21 = .ok (.iconst 0, 1) := by decide +kernel
theorem dL_access_22 : decode cL_access 22 = .ok (.ireturn, 1) := by decide +kernel
theorem dL_pass_0 : decode cL_pass 0 = .ok (.aload_n 2, 1) := by decide +kernel
theorem dL_pass_1 : decode cL_pass 1 = .ok (.iconst 0, 1) := by decide +kernel
theorem dL_pass_2 : decode cL_pass 2 = .ok (.aload_n 0, 1) := by decide +kernel
theorem dL_pass_3 : decode cL_pass 3 = .ok (.iload_n 1, 1) := by decide +kernel
theorem dL_pass_4 : decode cL_pass 4 = .ok (.invokevirtual 65, 3) := by decide +kernel
theorem dL_pass_7 : decode cL_pass 7 = .ok (.i2l, 1) := by decide +kernel
theorem dL_pass_8 : decode cL_pass 8 = .ok (.lastore, 1) := by decide +kernel
theorem dL_pass_9 : decode cL_pass 9 = .ok (.goto 9, 3) := by decide +kernel
theorem dL_pass_12 : decode cL_pass 12 = .ok (.astore_n 3, 1) := by decide +kernel
theorem dL_pass_13 : decode cL_pass 13 = .ok (.iconst 1, 1) := by decide +kernel
theorem dL_pass_14 : decode cL_pass 14 = .ok (.ireturn, 1) := by decide +kernel
theorem dL_pass_15 : decode cL_pass 15 = .ok (.astore_n 3, 1) := by decide +kernel
theorem dL_pass_16 : decode cL_pass 16 = .ok (.iconst 2, 1) := by decide +kernel
theorem dL_pass_17 : decode cL_pass 17 = .ok (.ireturn, 1) := by decide +kernel
theorem dL_pass_18 : decode cL_pass 18 = .ok (.iconst 0, 1) := by decide +kernel
theorem dL_pass_19 : decode cL_pass 19 = .ok (.ireturn, 1) := by decide +kernel
theorem dL_suspend_0 : decode cL_suspend 0 = .ok (.aload_n 1, 1) := by decide +kernel
theorem dL_suspend_1 : decode cL_suspend 1 = .ok (.iconst 0, 1) := by decide +kernel
theorem dL_suspend_2 : decode cL_suspend 2 = .ok (.aload_n 0, 1) := by decide +kernel
theorem dL_suspend_3 : decode cL_suspend 3 = .ok (.invokevirtual 68, 3) := by decide +kernel
theorem dL_suspend_6 : decode cL_suspend 6 = .ok (.i2l, 1) := by decide +kernel
theorem dL_suspend_7 : decode cL_suspend 7 = .ok (.lastore, 1) := by decide +kernel
theorem dL_suspend_8 : decode cL_suspend 8 = .ok (.goto 6, 3) := by decide +kernel
theorem dL_suspend_11 : decode cL_suspend 11 = .ok (.astore_n 2, 1) := by decide +kernel
theorem dL_suspend_12 : decode cL_suspend 12 = .ok (.iconst 1, 1) := by decide +kernel
theorem dL_suspend_13 : decode cL_suspend 13 = .ok (.ireturn, 1) := by decide +kernel
theorem dL_suspend_14 : decode cL_suspend 14 = .ok (.iconst 0, 1) := by decide +kernel
theorem dL_suspend_15 : decode cL_suspend 15 = .ok (.ireturn, 1) := by decide +kernel
theorem dL_resume_0 : decode cL_resume 0 = .ok (.aload_n 1, 1) := by decide +kernel
theorem dL_resume_1 : decode cL_resume 1 = .ok (.iconst 0, 1) := by decide +kernel
theorem dL_resume_2 : decode cL_resume 2 = .ok (.aload_n 0, 1) := by decide +kernel
theorem dL_resume_3 : decode cL_resume 3 = .ok (.invokevirtual 72, 3) := by decide +kernel
theorem dL_resume_6 : decode cL_resume 6 = .ok (.i2l, 1) := by decide +kernel
theorem dL_resume_7 : decode cL_resume 7 = .ok (.lastore, 1) := by decide +kernel
theorem dL_resume_8 : decode cL_resume 8 = .ok (.goto 6, 3) := by decide +kernel
theorem dL_resume_11 : decode cL_resume 11 = .ok (.astore_n 2, 1) := by decide +kernel
theorem dL_resume_12 : decode cL_resume 12 = .ok (.iconst 1, 1) := by decide +kernel
theorem dL_resume_13 : decode cL_resume 13 = .ok (.ireturn, 1) := by decide +kernel
theorem dL_resume_14 : decode cL_resume 14 = .ok (.iconst 0, 1) := by decide +kernel
theorem dL_resume_15 : decode cL_resume 15 = .ok (.ireturn, 1) := by decide +kernel
theorem dL_raise_0 : decode cL_raise 0 = .ok (.aload_n 2, 1) := by decide +kernel
theorem dL_raise_1 : decode cL_raise 1 = .ok (.iconst 0, 1) := by decide +kernel
theorem dL_raise_2 : decode cL_raise 2 = .ok (.aload_n 0, 1) := by decide +kernel
theorem dL_raise_3 : decode cL_raise 3 = .ok (.iload_n 1, 1) := by decide +kernel
theorem dL_raise_4 : decode cL_raise 4 = .ok (.invokevirtual 75, 3) := by decide +kernel
theorem dL_raise_7 : decode cL_raise 7 = .ok (.i2l, 1) := by decide +kernel
theorem dL_raise_8 : decode cL_raise 8 = .ok (.lastore, 1) := by decide +kernel
theorem dL_raise_9 : decode cL_raise 9 = .ok (.goto 9, 3) := by decide +kernel
theorem dL_raise_12 : decode cL_raise 12 = .ok (.astore_n 3, 1) := by decide +kernel
theorem dL_raise_13 : decode cL_raise 13 = .ok (.iconst 1, 1) := by decide +kernel
theorem dL_raise_14 : decode cL_raise 14 = .ok (.ireturn, 1) := by decide +kernel
theorem dL_raise_15 : decode cL_raise 15 = .ok (.astore_n 3, 1) := by decide +kernel
theorem dL_raise_16 : decode cL_raise 16 = .ok (.iconst 2, 1) := by decide +kernel
theorem dL_raise_17 : decode cL_raise 17 = .ok (.ireturn, 1) := by decide +kernel
theorem dL_raise_18 : decode cL_raise 18 = .ok (.iconst 0, 1) := by decide +kernel
theorem dL_raise_19 : decode cL_raise 19 = .ok (.ireturn, 1) := by decide +kernel
theorem dL_openLine_0 : decode cL_openLine 0 = .ok (.aload_n 2, 1) := by decide +kernel
theorem dL_openLine_1 : decode cL_openLine 1 = .ok (.iconst 0, 1) := by decide +kernel
theorem dL_openLine_2 : decode cL_openLine 2 = .ok (.aload_n 0, 1) := by decide +kernel
theorem dL_openLine_3 : decode cL_openLine 3 = .ok (.iload_n 1, 1) := by decide +kernel
theorem dL_openLine_4 : decode cL_openLine 4 = .ok (.invokevirtual 78, 3) := by decide +kernel
theorem dL_openLine_7 : decode cL_openLine 7 = .ok (.i2l, 1) := by decide +kernel
theorem dL_openLine_8 : decode cL_openLine 8 = .ok (.lastore, 1) := by decide +kernel
theorem dL_openLine_9 : decode cL_openLine 9 = .ok (.goto 6, 3) := by decide +kernel
theorem dL_openLine_12 : decode cL_openLine 12 = .ok (.astore_n 3, 1) := by decide +kernel
theorem dL_openLine_13 : decode cL_openLine 13 = .ok (.iconst 1, 1) := by decide +kernel
theorem dL_openLine_14 : decode cL_openLine 14 = .ok (.ireturn, 1) := by decide +kernel
theorem dL_openLine_15 : decode cL_openLine 15 = .ok (.iconst 0, 1) := by decide +kernel
theorem dL_openLine_16 : decode cL_openLine 16 = .ok (.ireturn, 1) := by decide +kernel
theorem dL_isThere_0 : decode cL_isThere 0 = .ok (.aload_n 2, 1) := by decide +kernel
theorem dL_isThere_1 : decode cL_isThere 1 = .ok (.iconst 0, 1) := by decide +kernel
theorem dL_isThere_2 : decode cL_isThere 2 = .ok (.aload_n 0, 1) := by decide +kernel
theorem dL_isThere_3 : decode cL_isThere 3 = .ok (.iload_n 1, 1) := by decide +kernel
theorem dL_isThere_4 : decode cL_isThere 4 = .ok (.invokevirtual 81, 3) := by decide +kernel
theorem dL_isThere_7 : decode cL_isThere 7 = .ok (.ifCond .eq 7, 3) := by decide +kernel
theorem dL_isThere_10 : decode cL_isThere 10 = .ok (.lconst 1, 1) := by decide +kernel
theorem dL_isThere_11 : decode cL_isThere 11 = .ok (.goto 4, 3) := by decide +kernel
theorem dL_isThere_14 : decode cL_isThere 14 = .ok (.lconst 0, 1) := by decide +kernel
theorem dL_isThere_15 : decode cL_isThere 15 = .ok (.lastore, 1) := by decide +kernel
theorem dL_isThere_16 : decode cL_isThere 16 = .ok (.goto 6, 3) := by decide +kernel
theorem dL_isThere_19 : decode cL_isThere 19 = .ok (.astore_n 3, 1) := by decide +kernel
theorem dL_isThere_20 : decode cL_isThere 20 = .ok (.iconst 1, 1) := by decide +kernel
theorem dL_isThere_21 : decode cL_isThere 21 = .ok (.ireturn, 1) := by decide +kernel
theorem dL_isThere_22 : decode cL_isThere 22 = .ok (.iconst 0, 1) := by decide +kernel
theorem dL_isThere_23 : decode cL_isThere 23 = .ok (.ireturn, 1) := by decide +kernel
theorem dL_reason_0 : decode cL_reason 0 = .ok (.aload_n 2, 1) := by decide +kernel
theorem dL_reason_1 : decode cL_reason 1 = .ok (.iconst 0, 1) := by decide +kernel
theorem dL_reason_2 : decode cL_reason 2 = .ok (.aload_n 0, 1) := by decide +kernel
theorem dL_reason_3 : decode cL_reason 3 = .ok (.iload_n 1, 1) := by decide +kernel
theorem dL_reason_4 : decode cL_reason 4 = .ok (.invokevirtual 84, 3) := by decide +kernel
theorem dL_reason_7 : decode cL_reason 7 = .ok (.i2l, 1) := by decide +kernel
theorem dL_reason_8 : decode cL_reason 8 = .ok (.lastore, 1) := by decide +kernel
theorem dL_reason_9 : decode cL_reason 9 = .ok (.goto 6, 3) := by decide +kernel
theorem dL_reason_12 : decode cL_reason 12 = .ok (.astore_n 3, 1) := by decide +kernel
theorem dL_reason_13 : decode cL_reason 13 = .ok (.iconst 1, 1) := by decide +kernel
theorem dL_reason_14 : decode cL_reason 14 = .ok (.ireturn, 1) := by decide +kernel
theorem dL_reason_15 : decode cL_reason 15 = .ok (.iconst 0, 1) := by decide +kernel
theorem dL_reason_16 : decode cL_reason 16 = .ok (.ireturn, 1) := by decide +kernel
theorem dL_driverOf_0 : decode cL_driverOf 0 = .ok (.aload_n 2, 1) := by decide +kernel
theorem dL_driverOf_1 : decode cL_driverOf 1 = .ok (.iconst 0, 1) := by decide +kernel
theorem dL_driverOf_2 : decode cL_driverOf 2 = .ok (.aload_n 0, 1) := by decide +kernel
theorem dL_driverOf_3 : decode cL_driverOf 3 = .ok (.iload_n 1, 1) := by decide +kernel
theorem dL_driverOf_4 : decode cL_driverOf 4 = .ok (.invokevirtual 87, 3) := by decide +kernel
theorem dL_driverOf_7 : decode cL_driverOf 7 = .ok (.i2l, 1) := by decide +kernel
theorem dL_driverOf_8 : decode cL_driverOf 8 = .ok (.lastore, 1) := by decide +kernel
theorem dL_driverOf_9 : decode cL_driverOf 9 = .ok (.goto 6, 3) := by decide +kernel
theorem dL_driverOf_12 : decode cL_driverOf 12 = .ok (.astore_n 3, 1) := by decide +kernel
theorem dL_driverOf_13 : decode cL_driverOf 13 = .ok (.iconst 1, 1) := by decide +kernel
theorem dL_driverOf_14 : decode cL_driverOf 14 = .ok (.ireturn, 1) := by decide +kernel
theorem dL_driverOf_15 : decode cL_driverOf 15 = .ok (.iconst 0, 1) := by decide +kernel
theorem dL_driverOf_16 : decode cL_driverOf 16 = .ok (.ireturn, 1) := by decide +kernel
theorem dL_window_0 : decode cL_window 0 = .ok (.aload_n 2, 1) := by decide +kernel
theorem dL_window_1 : decode cL_window 1 = .ok (.iconst 0, 1) := by decide +kernel
theorem dL_window_2 : decode cL_window 2 = .ok (.aload_n 0, 1) := by decide +kernel
theorem dL_window_3 : decode cL_window 3 = .ok (.iload_n 1, 1) := by decide +kernel
theorem dL_window_4 : decode cL_window 4 = .ok (.invokevirtual 90, 3) := by decide +kernel
theorem dL_window_7 : decode cL_window 7 = .ok (.i2l, 1) := by decide +kernel
theorem dL_window_8 : decode cL_window 8 = .ok (.lastore, 1) := by decide +kernel
theorem dL_window_9 : decode cL_window 9 = .ok (.goto 6, 3) := by decide +kernel
theorem dL_window_12 : decode cL_window 12 = .ok (.astore_n 3, 1) := by decide +kernel
theorem dL_window_13 : decode cL_window 13 = .ok (.iconst 1, 1) := by decide +kernel
theorem dL_window_14 : decode cL_window 14 = .ok (.ireturn, 1) := by decide +kernel
theorem dL_window_15 : decode cL_window 15 = .ok (.iconst 0, 1) := by decide +kernel
theorem dL_window_16 : decode cL_window 16 = .ok (.ireturn, 1) := by decide +kernel
theorem dL_isOn_0 : decode cL_isOn 0 = .ok (.aload_n 2, 1) := by decide +kernel
theorem dL_isOn_1 : decode cL_isOn 1 = .ok (.iconst 0, 1) := by decide +kernel
theorem dL_isOn_2 : decode cL_isOn 2 = .ok (.aload_n 0, 1) := by decide +kernel
theorem dL_isOn_3 : decode cL_isOn 3 = .ok (.iload_n 1, 1) := by decide +kernel
theorem dL_isOn_4 : decode cL_isOn 4 = .ok (.invokevirtual 93, 3) := by decide +kernel
theorem dL_isOn_7 : decode cL_isOn 7 = .ok (.ifCond .eq 7, 3) := by decide +kernel
theorem dL_isOn_10 : decode cL_isOn 10 = .ok (.lconst 1, 1) := by decide +kernel
theorem dL_isOn_11 : decode cL_isOn 11 = .ok (.goto 4, 3) := by decide +kernel
theorem dL_isOn_14 : decode cL_isOn 14 = .ok (.lconst 0, 1) := by decide +kernel
theorem dL_isOn_15 : decode cL_isOn 15 = .ok (.lastore, 1) := by decide +kernel
theorem dL_isOn_16 : decode cL_isOn 16 = .ok (.goto 6, 3) := by decide +kernel
theorem dL_isOn_19 : decode cL_isOn 19 = .ok (.astore_n 3, 1) := by decide +kernel
theorem dL_isOn_20 : decode cL_isOn 20 = .ok (.iconst 1, 1) := by decide +kernel
theorem dL_isOn_21 : decode cL_isOn 21 = .ok (.ireturn, 1) := by decide +kernel
theorem dL_isOn_22 : decode cL_isOn 22 = .ok (.iconst 0, 1) := by decide +kernel
theorem dL_isOn_23 : decode cL_isOn 23 = .ok (.ireturn, 1) := by decide +kernel
theorem dL_isPending_0 : decode cL_isPending 0 = .ok (.aload_n 2, 1) := by decide +kernel
theorem dL_isPending_1 : decode cL_isPending 1 = .ok (.iconst 0, 1) := by decide +kernel
theorem dL_isPending_2 : decode cL_isPending 2 = .ok (.aload_n 0, 1) := by decide +kernel
theorem dL_isPending_3 : decode cL_isPending 3 = .ok (.iload_n 1, 1) := by decide +kernel
theorem dL_isPending_4 : decode cL_isPending 4 = .ok (.invokevirtual 96, 3) := by decide +kernel
theorem dL_isPending_7 : decode cL_isPending 7 = .ok (.ifCond .eq 7, 3) := by decide +kernel
theorem dL_isPending_10 : decode cL_isPending 10 = .ok (.lconst 1, 1) := by decide +kernel
theorem dL_isPending_11 : decode cL_isPending 11 = .ok (.goto 4, 3) := by decide +kernel
theorem dL_isPending_14 : decode cL_isPending 14 = .ok (.lconst 0, 1) := by decide +kernel
theorem dL_isPending_15 : decode cL_isPending 15 = .ok (.lastore, 1) := by decide +kernel
theorem dL_isPending_16 : decode cL_isPending 16 = .ok (.goto 6, 3) := by decide +kernel
theorem dL_isPending_19 : decode cL_isPending 19 = .ok (.astore_n 3, 1) := by decide +kernel
theorem dL_isPending_20 : decode cL_isPending 20 = .ok (.iconst 1, 1) := by decide +kernel
theorem dL_isPending_21 : decode cL_isPending 21 = .ok (.ireturn, 1) := by decide +kernel
theorem dL_isPending_22 : decode cL_isPending 22 = .ok (.iconst 0, 1) := by decide +kernel
theorem dL_isPending_23 : decode cL_isPending 23 = .ok (.ireturn, 1) := by decide +kernel
theorem dL_strikes_0 : decode cL_strikes 0 = .ok (.aload_n 2, 1) := by decide +kernel
theorem dL_strikes_1 : decode cL_strikes 1 = .ok (.iconst 0, 1) := by decide +kernel
theorem dL_strikes_2 : decode cL_strikes 2 = .ok (.aload_n 0, 1) := by decide +kernel
theorem dL_strikes_3 : decode cL_strikes 3 = .ok (.iload_n 1, 1) := by decide +kernel
theorem dL_strikes_4 : decode cL_strikes 4 = .ok (.invokevirtual 99, 3) := by decide +kernel
theorem dL_strikes_7 : decode cL_strikes 7 = .ok (.i2l, 1) := by decide +kernel
theorem dL_strikes_8 : decode cL_strikes 8 = .ok (.lastore, 1) := by decide +kernel
theorem dL_strikes_9 : decode cL_strikes 9 = .ok (.goto 6, 3) := by decide +kernel
theorem dL_strikes_12 : decode cL_strikes 12 = .ok (.astore_n 3, 1) := by decide +kernel
theorem dL_strikes_13 : decode cL_strikes 13 = .ok (.iconst 1, 1) := by decide +kernel
theorem dL_strikes_14 : decode cL_strikes 14 = .ok (.ireturn, 1) := by decide +kernel
theorem dL_strikes_15 : decode cL_strikes 15 = .ok (.iconst 0, 1) := by decide +kernel
theorem dL_strikes_16 : decode cL_strikes 16 = .ok (.ireturn, 1) := by decide +kernel
theorem dL_handles_0 : decode cL_handles 0 = .ok (.aload_n 2, 1) := by decide +kernel
theorem dL_handles_1 : decode cL_handles 1 = .ok (.iconst 0, 1) := by decide +kernel
theorem dL_handles_2 : decode cL_handles 2 = .ok (.aload_n 0, 1) := by decide +kernel
theorem dL_handles_3 : decode cL_handles 3 = .ok (.iload_n 1, 1) := by decide +kernel
theorem dL_handles_4 : decode cL_handles 4 = .ok (.invokevirtual 102, 3) := by decide +kernel
theorem dL_handles_7 : decode cL_handles 7 = .ok (.i2l, 1) := by decide +kernel
theorem dL_handles_8 : decode cL_handles 8 = .ok (.lastore, 1) := by decide +kernel
theorem dL_handles_9 : decode cL_handles 9 = .ok (.goto 6, 3) := by decide +kernel
theorem dL_handles_12 : decode cL_handles 12 = .ok (.astore_n 3, 1) := by decide +kernel
theorem dL_handles_13 : decode cL_handles 13 = .ok (.iconst 1, 1) := by decide +kernel
theorem dL_handles_14 : decode cL_handles 14 = .ok (.ireturn, 1) := by decide +kernel
theorem dL_handles_15 : decode cL_handles 15 = .ok (.iconst 0, 1) := by decide +kernel
theorem dL_handles_16 : decode cL_handles 16 = .ok (.ireturn, 1) := by decide +kernel
theorem dL_callState_0 : decode cL_callState 0 = .ok (.aload_n 2, 1) := by decide +kernel
theorem dL_callState_1 : decode cL_callState 1 = .ok (.iconst 0, 1) := by decide +kernel
theorem dL_callState_2 : decode cL_callState 2 = .ok (.aload_n 0, 1) := by decide +kernel
theorem dL_callState_3 : decode cL_callState 3 = .ok (.iload_n 1, 1) := by decide +kernel
theorem dL_callState_4 : decode cL_callState 4 = .ok (.invokevirtual 105, 3) := by decide +kernel
theorem dL_callState_7 : decode cL_callState 7 = .ok (.i2l, 1) := by decide +kernel
theorem dL_callState_8 : decode cL_callState 8 = .ok (.lastore, 1) := by decide +kernel
theorem dL_callState_9 : decode cL_callState 9 = .ok (.goto 6, 3) := by decide +kernel
theorem dL_callState_12 : decode cL_callState 12 = .ok (.astore_n 3, 1) := by decide +kernel
theorem dL_callState_13 : decode cL_callState 13 = .ok (.iconst 1, 1) := by decide +kernel
theorem dL_callState_14 : decode cL_callState 14 = .ok (.ireturn, 1) := by decide +kernel
theorem dL_callState_15 : decode cL_callState 15 = .ok (.iconst 0, 1) := by decide +kernel
theorem dL_callState_16 : decode cL_callState 16 = .ok (.ireturn, 1) := by decide +kernel
theorem dL_given_0 : decode cL_given 0 = .ok (.aload_n 2, 1) := by decide +kernel
theorem dL_given_1 : decode cL_given 1 = .ok (.iconst 0, 1) := by decide +kernel
theorem dL_given_2 : decode cL_given 2 = .ok (.aload_n 0, 1) := by decide +kernel
theorem dL_given_3 : decode cL_given 3 = .ok (.iload_n 1, 1) := by decide +kernel
theorem dL_given_4 : decode cL_given 4 = .ok (.invokevirtual 108, 3) := by decide +kernel
theorem dL_given_7 : decode cL_given 7 = .ok (.i2l, 1) := by decide +kernel
theorem dL_given_8 : decode cL_given 8 = .ok (.lastore, 1) := by decide +kernel
theorem dL_given_9 : decode cL_given 9 = .ok (.goto 6, 3) := by decide +kernel
theorem dL_given_12 : decode cL_given 12 = .ok (.astore_n 3, 1) := by decide +kernel
theorem dL_given_13 : decode cL_given 13 = .ok (.iconst 1, 1) := by decide +kernel
theorem dL_given_14 : decode cL_given 14 = .ok (.ireturn, 1) := by decide +kernel
theorem dL_given_15 : decode cL_given 15 = .ok (.iconst 0, 1) := by decide +kernel
theorem dL_given_16 : decode cL_given 16 = .ok (.ireturn, 1) := by decide +kernel
theorem dL_eventKind_0 : decode cL_eventKind 0 = .ok (.aload_n 2, 1) := by decide +kernel
theorem dL_eventKind_1 : decode cL_eventKind 1 = .ok (.iconst 0, 1) := by decide +kernel
theorem dL_eventKind_2 : decode cL_eventKind 2 = .ok (.aload_n 0, 1) := by decide +kernel
theorem dL_eventKind_3 : decode cL_eventKind 3 = .ok (.iload_n 1, 1) := by decide +kernel
theorem dL_eventKind_4 : decode cL_eventKind 4 = .ok (.invokevirtual 111, 3) := by decide +kernel
theorem dL_eventKind_7 : decode cL_eventKind 7 = .ok (.i2l, 1) := by decide +kernel
theorem dL_eventKind_8 : decode cL_eventKind 8 = .ok (.lastore, 1) := by decide +kernel
theorem dL_eventKind_9 : decode cL_eventKind 9 = .ok (.goto 6, 3) := by decide +kernel
theorem dL_eventKind_12 : decode cL_eventKind 12 = .ok (.astore_n 3, 1) := by decide +kernel
theorem dL_eventKind_13 : decode cL_eventKind 13 = .ok (.iconst 1, 1) := by decide +kernel
theorem dL_eventKind_14 : decode cL_eventKind 14 = .ok (.ireturn, 1) := by decide +kernel
theorem dL_eventKind_15 : decode cL_eventKind 15 = .ok (.iconst 0, 1) := by decide +kernel
theorem dL_eventKind_16 : decode cL_eventKind 16 = .ok (.ireturn, 1) := by decide +kernel
theorem dL_eventOf_0 : decode cL_eventOf 0 = .ok (.aload_n 2, 1) := by decide +kernel
theorem dL_eventOf_1 : decode cL_eventOf 1 = .ok (.iconst 0, 1) := by decide +kernel
theorem dL_eventOf_2 : decode cL_eventOf 2 = .ok (.aload_n 0, 1) := by decide +kernel
theorem dL_eventOf_3 : decode cL_eventOf 3 = .ok (.iload_n 1, 1) := by decide +kernel
theorem dL_eventOf_4 : decode cL_eventOf 4 = .ok (.invokevirtual 114, 3) := by decide +kernel
theorem dL_eventOf_7 : decode cL_eventOf 7 = .ok (.i2l, 1) := by decide +kernel
theorem dL_eventOf_8 : decode cL_eventOf 8 = .ok (.lastore, 1) := by decide +kernel
theorem dL_eventOf_9 : decode cL_eventOf 9 = .ok (.goto 6, 3) := by decide +kernel
theorem dL_eventOf_12 : decode cL_eventOf 12 = .ok (.astore_n 3, 1) := by decide +kernel
theorem dL_eventOf_13 : decode cL_eventOf 13 = .ok (.iconst 1, 1) := by decide +kernel
theorem dL_eventOf_14 : decode cL_eventOf 14 = .ok (.ireturn, 1) := by decide +kernel
theorem dL_eventOf_15 : decode cL_eventOf 15 = .ok (.iconst 0, 1) := by decide +kernel
theorem dL_eventOf_16 : decode cL_eventOf 16 = .ok (.ireturn, 1) := by decide +kernel
