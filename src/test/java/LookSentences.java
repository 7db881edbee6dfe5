/** The sentences of the promises 17 to 21. */
final class LookSentences extends Sentences {
    private static TeamRooms fourRooms() {
        TeamRooms x = new TeamRooms();
        for (int room = 0; room < 4; room++) {
            x.addRoom(20 + room, room, 5 + room, 2 + room);
        }
        return x;
    }

    private static TeamRooms eightVouchers() {
        TeamRooms x = booked();
        for (int voucher = 0; voucher < 8; voucher++) {
            x.sellVoucher(10 + voucher);
        }
        return x;
    }

    @Says("Promise 17 | `int count(int what)`: Returns a number.")
    static void countsChangeNothing() {
        TeamRooms x = mixed();
        for (int round = 0; round < 2; round++) {
            for (int what = -2; what <= 16; what++) {
                x.count(what);
            }
        }
        samePicture(x, mixed());
    }

    @Says("Promise 17 | `what`: 0 the number of rooms, 1 of bookings (in all states), 2 of vouchers, 3 of snapshots, "
        + "4 of states in the history, 5 the length of the text, 6 to 10 the settings 0 to 4, "
        + "11 to 14 the number of bookings in the states 0 to 3")
    static void whatIsCounted() {
        int[] none = {0, 0, 0, 0, 0, 0, 2, 10, 5, 15, 20, 0, 0, 0, 0};
        int[] some = {2, 5, 1, 1, 5, 1, 2, 10, 5, 15, 20, 2, 1, 1, 1};
        int[] most = {4, 16, 8, 2, 5, 140, 10, 30, 20, 60, 50, 10, 1, 3, 2};
        TeamRooms full = tight(16);
        full.addRoom(20, 0, 1, 2);
        full.addRoom(20, 0, 1, 2);
        full.addRoom(20, 0, 1, 2);
        for (int voucher = 0; voucher < 8; voucher++) {
            full.sellVoucher(1);
        }
        full.play(0, 1, 0, 0);
        full.cancel(1);
        full.cancel(2);
        full.cancel(3);
        full.merge(4, 6);
        full.merge(5, 7);
        for (int what = 0; what < 5; what++) {
            full.set(what, most[6 + what]);
        }
        full.take(0);
        full.take(1);
        write(full, filled("", 140));
        TeamRooms mixed = mixed();
        for (int what = 0; what <= 14; what++) {
            due(new TeamRooms().count(what), none[what]);
            due(mixed.count(what), some[what]);
            due(full.count(what), most[what]);
        }
    }

    @Says("Promise 17 | Returns the number")
    static void countsAfterRefusedCalls() {
        TeamRooms x = booked(0);
        x.book(0, 39, 2, -1);
        x.addRoom(1, 1, 1, 1);
        x.sellVoucher(0);
        x.take(2);
        x.append(0);
        x.set(0, 11);
        int[] numbers = {1, 1, 0, 0, 2, 0, 2, 10, 5, 15, 20, 1, 0, 0, 0};
        for (int what = 0; what <= 14; what++) {
            due(x.count(what), numbers[what]);
        }
    }

    @Says("Promise 17 | INVALID_ARGUMENT if what is out of range.")
    static void countOutOfRange() {
        takes(0, 14, what -> new TeamRooms().count(what));
        takes(0, 14, what -> mixed().count(what));
        refused(INVALID, Sentences::mixed, x -> x.count(15));
        refused(INVALID, Sentences::mixed, x -> x.count(-1));
        due(new TeamRooms().count(MIN + 6), INVALID);
        due(new TeamRooms().count(MAX - 14), INVALID);
    }

    @Says("Promise 18 | `int room(int room, int what)`: Returns a property of a room.")
    static void roomsAreApart() {
        TeamRooms x = fourRooms();
        x.book(3, 0, 2, -1);
        x.play(0, 23, 1, 0);
        for (int room = 0; room < 4; room++) {
            due(x.room(room, 0), 20 + room);
            due(x.room(room, 1), room);
            due(x.room(room, 2), 5 + room);
            due(x.room(room, 3), 2 + room);
            for (int what = 4; what <= 10; what++) {
                due(x.room(room, what), room < 3 ? 0 : new int[] {28, 1, 1, 1, 25, 0, 1}[what - 4]);
            }
        }
    }

    @Says("Promise 18 | `room`: a room")
    static void whichRoom() {
        takes(0, 0, room -> booked().room(room, 0));
        takes(0, 3, room -> fourRooms().room(room, 0));
        due(new TeamRooms().room(0, 0), INVALID);
    }

    @Says("Promise 18 | `what`: 0 its length, 1 its reset, 2 its price, 3 its most players, 4 when it is free, "
        + "5 the plays, 6 those that were solved, 7 the hints, 8 the minutes of plays, "
        + "9 the greatest delay of a play (0 without plays), 10 the overruns, "
        + "11 the booking that is played next (NONE if none is booked)")
    static void propertiesOfARoom() {
        TeamRooms x = booked(400, 0, 40, 80);
        due(x.room(0, 9), 0);
        due(x.room(0, 11), 1);
        x.play(1, 30, 20, 5);
        due(x.room(0, 9), 0);
        due(x.room(0, 11), 2);
        // It is free at 75: the second play has a delay of 35, the third one of 5, and the last one none.
        x.play(2, 0, 3, 0);
        due(x.room(0, 9), 35);
        due(x.room(0, 4), 115);
        x.play(3, 1, 0, 0);
        due(x.room(0, 9), 35);
        due(x.room(0, 11), 0);
        x.play(0, 30, 1, 0);
        int[] all = {30, 10, 10, 6, 442, 4, 2, 24, 40 + 30 + 1 + 32, 35, 2, NONE};
        for (int what = 0; what <= 11; what++) {
            due(x.room(0, what), all[what]);
        }
        nextOfARoom();
    }

    private static void nextOfARoom() {
        TeamRooms x = booked();
        due(x.room(0, 11), NONE);
        x.book(0, 720, 2, -1);
        due(x.room(0, 11), 0);
        x.book(0, 600, 2, -1);
        due(x.room(0, 11), 1);
        x.book(0, 0, 2, -1);
        due(x.room(0, 11), 2);
        x.cancel(2);
        due(x.room(0, 11), 1);
        x.merge(1, 0);
        due(x.room(0, 11), 0);
        x.cancel(0);
        due(x.room(0, 11), NONE);
        x.addRoom(20, 0, 1, 2);
        x.book(1, 0, 2, -1);
        due(x.room(0, 11), NONE);
        due(x.room(1, 11), 3);
    }

    @Says("Promise 18 | Returns the property")
    static void greatestPropertiesOfARoom() {
        // 16 plays of 150 minutes with 20 hints each.
        TeamRooms x = new TeamRooms();
        x.addRoom(120, 60, 200, 8);
        x.set(0, 10);
        x.set(1, 30);
        x.set(2, 20);
        for (int play = 0; play < 16; play++) {
            // As the plays may be far behind, they are booked one after the other where there is no place for all.
            int time = x.freeTime(0, 0);
            if (time >= 0) {
                int booking = x.book(0, time, 8, -1);
                due(x.play(booking, 120, 20, 9), 150);
            }
        }
        // There is place for 5 of them (0 to 720), each taking 150 + 60 + 180 minutes in all.
        due(x.room(0, 5), 5);
        due(x.room(0, 7), 100);
        due(x.room(0, 8), 750);
        due(x.room(0, 4), 5 * 390);
        due(x.room(0, 9), 4 * 390 - 720);
        due(x.room(0, 10), 5);
        due(x.room(0, 6), 0);
        TeamRooms y = tight(16);
        for (int play = 0; play < 16; play++) {
            y.play(play, 1, 0, 0);
        }
        due(y.room(0, 5), 16);
        due(y.room(0, 6), 16);
        due(y.room(0, 8), 16);
    }

    @Says("Promise 18 | INVALID_ARGUMENT if there is no such room or what is out of range.")
    static void roomOutOfRange() {
        takes(0, 11, what -> booked(0).room(0, what));
        refused(INVALID, TeamRooms::new, x -> x.room(0, 0));
        refused(INVALID, Sentences::mixed, x -> x.room(2, 0));
        refused(INVALID, Sentences::mixed, x -> x.room(-1, 11));
        refused(INVALID, Sentences::mixed, x -> x.room(0, 12));
        refused(INVALID, Sentences::mixed, x -> x.room(0, -1));
        refused(INVALID, Sentences::mixed, x -> x.room(MIN, MAX));
        refused(INVALID, Sentences::mixed, x -> x.room(MAX, MIN));
        due(mixed().room(MAX / 11, 0), INVALID);
        due(mixed().room(390451573, 0), INVALID);
    }

    @Says("Promise 19 | `int booking(int booking, int what)`: Returns a property of a booking.")
    static void bookingsAreApart() {
        TeamRooms x = booked();
        x.addRoom(20, 0, 7, 8);
        x.book(0, 100, 6, -1);
        x.book(1, 50, 3, -1);
        x.book(0, 50, 2, -1);
        int[][] properties = {{0, 100, 6, 0, 60, 60}, {1, 50, 3, 0, 21, 21}, {0, 50, 2, 0, 20, 20}};
        for (int booking = 0; booking < 3; booking++) {
            for (int what = 0; what <= 5; what++) {
                due(x.booking(booking, what), properties[booking][what]);
            }
        }
    }

    @Says("Promise 19 | `booking`: a booking")
    static void whichBooking() {
        takes(0, 0, booking -> booked(0).booking(booking, 0));
        takes(0, 15, booking -> tight(16).booking(booking, 0));
        due(booked().booking(0, 0), INVALID);
    }

    @Says("Promise 19 | `what`: 0 its room, 1 its time, 2 its players, 3 its state, 4 its charge, "
        + "5 its cash payment as it is now, 6 its voucher payments as they are now, together, "
        + "7 what has been refunded for it (before it was merged, too), 8 its start, 9 the minutes of its play "
        + "(8 and 9 are NONE if it is not played), 10 the number of its voucher payments that are greater than 0 now "
        + "(each by itself, also two of the same voucher)")
    static void propertiesOfABooking() {
        TeamRooms x = booked();
        x.sellVoucher(35);
        x.sellVoucher(50);
        x.book(0, 0, 2, 0);
        x.book(0, 40, 2, 0);
        x.book(0, 80, 2, 1);
        look(x, 1, new int[] {0, 40, 2, 0, 20, 5, 15, 0, NONE, NONE, 1});
        x.merge(0, 1);
        look(x, 0, new int[] {0, 0, 0, 3, 0, 0, 0, 0, NONE, NONE, 0});
        // Two of the same voucher.
        look(x, 1, new int[] {0, 40, 4, 0, 40, 5, 35, 0, NONE, NONE, 2});
        x.merge(2, 1);
        look(x, 1, new int[] {0, 40, 6, 0, 60, 5, 55, 0, NONE, NONE, 3});
        // The half is 30: 5 in cash, 20 of voucher 1, 5 of the last payment of voucher 0.
        x.cancel(1);
        look(x, 1, new int[] {0, 40, 6, 2, 60, 0, 30, 30, NONE, NONE, 2});
        due(x.voucher(0, 1), 5);
        due(x.voucher(1, 1), 50);
        TeamRooms y = delayed(16, 4, 10);
        y.play(1, 0, 0, 0);
        look(y, 0, new int[] {0, 0, 2, 1, 20, 20, 0, 0, 0, 36, 0});
        look(y, 1, new int[] {0, 20, 4, 1, 40, 32, 0, 8, 36, 20, 0});
        // A start at 0 and a play of one minute are no NONE.
        TeamRooms z = booked(0);
        z.play(0, 1, 0, 0);
        look(z, 0, new int[] {0, 0, 2, 1, 20, 20, 0, 0, 0, 1, 0});
    }

    private static void look(TeamRooms x, int booking, int[] properties) {
        for (int what = 0; what <= 10; what++) {
            due(x.booking(booking, what), properties[what]);
        }
    }

    @Says("Promise 19 | Returns the property")
    static void propertiesOfAnEmptyRow() {
        // All of the last payment goes, but nothing of the one ahead of it; then it is no more counted.
        TeamRooms x = booked();
        x.sellVoucher(40);
        x.book(0, 0, 2, 0);
        x.book(0, 40, 2, 0);
        x.merge(1, 0);
        due(x.booking(0, 10), 2);
        x.cancel(0);
        look(x, 0, new int[] {0, 0, 4, 2, 40, 0, 20, 20, NONE, NONE, 1});
        due(x.booking(1, 7), 0);
        due(x.booking(1, 10), 0);
    }

    @Says("Promise 19 | INVALID_ARGUMENT if there is no such booking or what is out of range.")
    static void bookingOutOfRange() {
        for (int what = 0; what <= 7; what++) {
            holds(booked(0).booking(0, what) >= 0);
        }
        due(booked(0).booking(0, 8), NONE);
        due(booked(0).booking(0, 9), NONE);
        due(booked(0).booking(0, 10), 0);
        refused(INVALID, TeamRooms::new, x -> x.booking(0, 0));
        refused(INVALID, Sentences::mixed, x -> x.booking(5, 0));
        refused(INVALID, Sentences::mixed, x -> x.booking(-1, 6));
        refused(INVALID, Sentences::mixed, x -> x.booking(5, 10));
        refused(INVALID, Sentences::mixed, x -> x.booking(0, 11));
        refused(INVALID, Sentences::mixed, x -> x.booking(0, -1));
        refused(INVALID, Sentences::mixed, x -> x.booking(MIN, MAX));
        refused(INVALID, Sentences::mixed, x -> x.booking(MAX, MIN));
    }

    @Says("Promise 20 | `int voucher(int voucher, int what)`: Returns a property of a voucher.")
    static void vouchersAreApart() {
        TeamRooms x = eightVouchers();
        x.book(0, 0, 2, 7);
        for (int voucher = 0; voucher < 8; voucher++) {
            due(x.voucher(voucher, 0), 10 + voucher);
            due(x.voucher(voucher, 1), voucher < 7 ? 10 + voucher : 0);
            due(x.voucher(voucher, 2), voucher < 7 ? 0 : 1);
        }
    }

    @Says("Promise 20 | `voucher`: a voucher")
    static void whichVoucher() {
        takes(0, 7, voucher -> eightVouchers().voucher(voucher, 0));
        takes(0, 0, voucher -> mixed().voucher(voucher, 0));
        due(booked().voucher(0, 0), INVALID);
    }

    @Says("Promise 20 | `what`: 0 the value for which it was sold, 1 its balance, "
        + "2 the number of bookings that have a payment of it that is greater than 0 now")
    static void propertiesOfAVoucher() {
        TeamRooms x = booked();
        x.sellVoucher(100);
        due(x.voucher(0, 2), 0);
        x.book(0, 0, 2, 0);
        due(x.voucher(0, 2), 1);
        x.book(0, 40, 2, 0);
        x.book(0, 80, 2, 0);
        due(x.voucher(0, 2), 3);
        due(x.voucher(0, 1), 40);
        // A booking with two payments of it counts once, also if one of them is 0 now.
        x.merge(0, 1);
        due(x.voucher(0, 2), 2);
        x.cancel(1);
        due(x.booking(1, 10), 1);
        due(x.voucher(0, 2), 2);
        due(x.voucher(0, 1), 60);
        // All of a payment is refunded: it counts no more.
        x.set(3, 0);
        x.book(0, 40, 2, -1);
        x.play(3, 30, 1, 0);
        due(x.forecast(2, 1), 2);
        due(x.cancel(2), 20);
        due(x.voucher(0, 2), 1);
        due(x.voucher(0, 1), 80);
        due(x.voucher(0, 0), 100);
        // Nor does a booking that found it empty.
        TeamRooms y = booked();
        y.sellVoucher(20);
        y.book(0, 0, 2, 0);
        y.book(0, 40, 2, 0);
        due(y.voucher(0, 2), 1);
        due(y.voucher(0, 1), 0);
        // A payment of 1 is greater than 0; and so is the 1 that is left of one.
        TeamRooms z = booked();
        z.sellVoucher(1);
        z.sellVoucher(20);
        z.book(0, 0, 2, 0);
        due(z.voucher(0, 2), 1);
        z.setPrice(0, 1);
        z.book(0, 40, 2, 1);
        due(z.cancel(1), 1);
        due(z.booking(1, 6), 1);
        due(z.voucher(1, 2), 1);
    }

    @Says("Promise 20 | Returns the property")
    static void leastAndGreatestVoucher() {
        TeamRooms x = booked();
        x.sellVoucher(1);
        x.sellVoucher(500);
        due(x.voucher(0, 0), 1);
        due(x.voucher(0, 1), 1);
        due(x.voucher(1, 0), 500);
        due(x.voucher(1, 1), 500);
        x.book(0, 0, 2, 0);
        due(x.voucher(0, 1), 0);
        due(x.voucher(0, 0), 1);
        // One voucher in the payments of all the bookings.
        TeamRooms y = tight(0);
        y.sellVoucher(320);
        for (int booking = 0; booking < 16; booking++) {
            y.book(0, 20 * booking, 2, 0);
            due(y.voucher(0, 2), booking + 1);
        }
        due(y.voucher(0, 1), 0);
        due(y.money(5), 320);
    }

    @Says("Promise 20 | INVALID_ARGUMENT if there is no such voucher or what is out of range.")
    static void voucherOutOfRange() {
        takes(0, 2, what -> mixed().voucher(0, what));
        refused(INVALID, TeamRooms::new, x -> x.voucher(0, 0));
        refused(INVALID, Sentences::mixed, x -> x.voucher(1, 0));
        refused(INVALID, Sentences::mixed, x -> x.voucher(-1, 2));
        refused(INVALID, Sentences::mixed, x -> x.voucher(1, 2));
        refused(INVALID, Sentences::mixed, x -> x.voucher(0, 3));
        refused(INVALID, Sentences::mixed, x -> x.voucher(0, -1));
        refused(INVALID, Sentences::mixed, x -> x.voucher(MIN, MAX));
        refused(INVALID, Sentences::mixed, x -> x.voucher(MAX, MIN));
        due(eightVouchers().voucher(8, 0), INVALID);
    }

    @Says("Promise 21 | `int money(int what)`: Returns an amount.")
    static void amountsOfAnEmptyVenue() {
        for (int what = 0; what <= 6; what++) {
            due(new TeamRooms().money(what), 0);
            due(fourRooms().money(what), 0);
        }
    }

    private static void amounts(TeamRooms x, int... due) {
        for (int what = 0; what <= 6; what++) {
            due(x.money(what), due[what]);
        }
    }

    @Says("Promise 21 | `what`: 0 the till, 1 the balances of all vouchers together, "
        + "2 the charges of all bookings together, 3 what has been refunded in all, "
        + "4 the cash payments as they are now, together, 5 the voucher payments as they are now, together, "
        + "6 the values of all vouchers together")
    static void whichAmounts() {
        TeamRooms x = booked();
        x.sellVoucher(25);
        x.sellVoucher(100);
        amounts(x, 125, 125, 0, 0, 0, 0, 125);
        x.book(0, 0, 3, 0);
        x.book(0, 40, 4, 1);
        x.book(0, 80, 2, -1);
        amounts(x, 150, 60, 90, 0, 25, 65, 125);
        // 15: 5 in cash and 10 for voucher 0.
        x.cancel(0);
        amounts(x, 145, 70, 90, 15, 20, 55, 125);
        // 20 for voucher 1.
        x.cancel(1);
        amounts(x, 145, 90, 90, 35, 20, 35, 125);
        x.play(2, 0, 0, 0);
        amounts(x, 145, 90, 90, 35, 20, 35, 125);
        x.undo();
        x.undo();
        x.undo();
        amounts(x, 150, 60, 90, 0, 25, 65, 125);
        // A merged team changes no amount.
        due(x.merge(2, 1), 6);
        amounts(x, 150, 60, 90, 0, 25, 65, 125);
    }

    @Says("Promise 21 | Returns the amount")
    static void greatestAmounts() {
        TeamRooms x = tight(0);
        x.setPrice(0, 200);
        for (int voucher = 0; voucher < 8; voucher++) {
            x.sellVoucher(500);
        }
        for (int booking = 0; booking < 16; booking++) {
            x.book(0, 20 * booking, 8, booking / 2);
        }
        amounts(x, 25600, 0, 25600, 0, 21600, 4000, 4000);
        for (int booking = 0; booking < 16; booking++) {
            due(x.cancel(booking), 800);
        }
        // Of each 800 all is cash, but of the first one of each two (1,100 in cash) there is 300 left.
        amounts(x, 12800, 0, 25600, 12800, 8800, 4000, 4000);
    }

    @Says("Promise 21 | INVALID_ARGUMENT if what is out of range.")
    static void moneyOutOfRange() {
        takes(0, 6, what -> new TeamRooms().money(what));
        takes(0, 6, what -> mixed().money(what));
        refused(INVALID, Sentences::mixed, x -> x.money(7));
        refused(INVALID, Sentences::mixed, x -> x.money(-1));
    }
}
