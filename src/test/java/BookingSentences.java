/** The sentences of "Bookings" and of the promises 6, 7 and 9. */
final class BookingSentences extends Sentences {
    /** Rooms 0 (30 + 10 minutes, 10 euros, 6 players) and 1 (120 + 60 minutes, 200 euros, 8 players). */
    private static TeamRooms twoRooms() {
        TeamRooms x = booked();
        x.addRoom(120, 60, 200, 8);
        return x;
    }

    private static TeamRooms sixteenBookings() {
        return tight(16);
    }

    @Says("Bookings | There are at most 16 bookings, numbered from 0 in the order in which they were made")
    static void atMostSixteenBookings() {
        TeamRooms x = tight(0);
        for (int booking = 0; booking < 16; booking++) {
            due(x.book(0, 700 - 20 * booking, 2, -1), booking);
        }
        due(x.book(0, 20, 2, -1), FULL);
        for (int booking = 0; booking < 16; booking++) {
            due(x.booking(booking, 1), 700 - 20 * booking);
        }
        due(x.booking(16, 1), INVALID);
        due(x.count(1), 16);
        // Those that are cancelled or merged are bookings, too.
        x.cancel(3);
        x.merge(4, 5);
        due(x.count(1), 16);
        due(x.book(0, 20, 2, -1), FULL);
        due(x.book(0, 640, 2, -1), FULL);
        x.undo();
        x.undo();
        x.undo();
        due(x.book(0, 0, 2, -1), 15);
    }

    @Says("Bookings | their numbers never change.")
    static void numbersOfBookingsStay() {
        TeamRooms x = booked(200, 0, 100, 300);
        x.cancel(0);
        x.merge(3, 2);
        x.play(1, 30, 0, 0);
        x.move(2, 500);
        int[] times = {200, 0, 500, 300};
        int[] states = {2, 1, 0, 3};
        for (int booking = 0; booking < 4; booking++) {
            due(x.booking(booking, 1), times[booking]);
            due(x.booking(booking, 3), states[booking]);
        }
        due(x.book(0, 200, 2, -1), 4);
        due(x.book(0, 300, 2, -1), 5);
    }

    @Says("Bookings | A booking is for a room, a time (its planned start, 0 to 720) and a number of players.")
    static void firstAndLastTime() {
        TeamRooms x = twoRooms();
        due(x.book(0, 0, 2, -1), 0);
        due(x.book(0, 720, 6, -1), 1);
        due(x.book(1, 720, 8, -1), 2);
        int[][] properties = {{0, 0, 2}, {0, 720, 6}, {1, 720, 8}};
        for (int booking = 0; booking < 3; booking++) {
            for (int what = 0; what <= 2; what++) {
                due(x.booking(booking, what), properties[booking][what]);
            }
        }
        x.play(0, 0, 0, 0);
        due(x.play(1, 30, 0, 0), 30);
        due(x.booking(1, 8), 720);
        due(x.room(0, 4), 760);
    }

    @Says("Bookings | It is always in one of four states: 0 booked (at first), 1 played, 2 cancelled, 3 merged.")
    static void fourStates() {
        TeamRooms x = booked(0, 40, 80, 120);
        for (int booking = 0; booking < 4; booking++) {
            due(x.booking(booking, 3), 0);
        }
        x.play(0, 0, 0, 0);
        x.cancel(1);
        x.merge(2, 3);
        int[] states = {1, 2, 3, 0};
        for (int booking = 0; booking < 4; booking++) {
            due(x.booking(booking, 3), states[booking]);
        }
        for (int state = 0; state < 4; state++) {
            due(x.count(11 + state), 1);
        }
        x.undo();
        due(x.booking(2, 3), 0);
        due(x.count(11), 2);
        due(x.count(14), 0);
    }

    @Says("Bookings | Two bookings of a room collide if their times differ by less than its length plus its reset, "
        + "neither being cancelled or merged.")
    static void collisions() {
        TeamRooms x = twoRooms();
        x.book(0, 200, 2, -1);
        due(x.book(0, 161, 2, -1), ILLEGAL);
        due(x.book(0, 200, 2, -1), ILLEGAL);
        due(x.book(0, 239, 2, -1), ILLEGAL);
        due(x.book(0, 160, 2, -1), 1);
        due(x.book(0, 240, 2, -1), 2);
        // Another room, with a length and a reset of its own.
        due(x.book(1, 200, 2, -1), 3);
        due(x.book(1, 379, 2, -1), ILLEGAL);
        due(x.book(1, 21, 2, -1), ILLEGAL);
        due(x.book(1, 380, 2, -1), 4);
        due(x.book(1, 20, 2, -1), 5);
        // A played one collides, a cancelled one and a merged one don't.
        x.play(1, 0, 0, 0);
        due(x.book(0, 199, 2, -1), ILLEGAL);
        x.cancel(0);
        due(x.book(0, 199, 2, -1), ILLEGAL);
        due(x.book(0, 200, 2, -1), 6);
        x.merge(6, 2);
        due(x.book(0, 200, 2, -1), 7);
        x.cancel(7);
        x.move(2, 700);
        due(x.book(0, 201, 2, -1), 8);
    }

    @Says("Bookings | A time is possible for a booking of a room if it would not collide with another one, "
        + "and if it is later than the times of all played bookings of this room.")
    static void possibleTimes() {
        TeamRooms x = twoRooms();
        x.book(0, 100, 2, -1);
        x.book(0, 300, 2, -1);
        due(x.book(0, 60, 2, -1), 2);
        x.cancel(2);
        x.play(0, 0, 0, 0);
        due(x.book(0, 60, 2, -1), ILLEGAL);
        due(x.book(0, 0, 2, -1), ILLEGAL);
        due(x.book(0, 100, 2, -1), ILLEGAL);
        due(x.book(0, 101, 2, -1), ILLEGAL);
        due(x.book(0, 139, 2, -1), ILLEGAL);
        due(x.book(0, 140, 2, -1), 3);
        x.cancel(3);
        x.play(1, 0, 0, 0);
        // Between the played ones there would be place enough, but it is not later than all of them.
        due(x.book(0, 140, 2, -1), ILLEGAL);
        due(x.book(0, 260, 2, -1), ILLEGAL);
        due(x.book(0, 340, 2, -1), 4);
        due(x.book(1, 0, 2, -1), 5);
        due(x.move(4, 200), ILLEGAL);
        due(x.move(4, 341), 340);
    }

    @Says("Promise 6 | `int book(int room, int time, int players, int voucher)`: Makes a booking, which is paid.")
    static void aNewBooking() {
        TeamRooms x = booked();
        x.sellVoucher(25);
        due(x.book(0, 700, 6, 0), 0);
        int[] properties = {0, 700, 6, 0, 60, 35, 25, 0, NONE, NONE, 1};
        for (int what = 0; what <= 10; what++) {
            due(x.booking(0, what), properties[what]);
        }
        due(x.money(0), 60);
        due(x.money(2), 60);
        due(x.room(0, 11), 0);
    }

    @Says("Promise 6 | This is an action.")
    static void bookIsAnAction() {
        isAction(Sentences::booked, x -> x.book(0, 0, 2, -1));
        isAction(Sentences::mixed, x -> x.book(1, 720, 8, 0));
        isAction(() -> tight(15), x -> x.book(0, 720, 8, -1));
        isNoAction(Sentences::mixed, x -> x.book(0, 39, 2, -1));
        isNoAction(BookingSentences::sixteenBookings, x -> x.book(0, 720, 2, -1));
    }

    @Says("Promise 6 | `room`: a room")
    static void bookWhichRoom() {
        takes(0, 1, room -> twoRooms().book(room, 0, 2, -1));
        due(new TeamRooms().book(0, 0, 2, -1), INVALID);
    }

    @Says("Promise 6 | `time`: 0 to 720")
    static void bookWhen() {
        takes(0, 720, time -> booked().book(0, time, 2, -1));
    }

    @Says("Promise 6 | `players`: 2 to the most players of the room")
    static void bookForHowMany() {
        takes(2, 6, players -> booked().book(0, 0, players, -1));
        takes(2, 8, players -> twoRooms().book(1, 0, players, -1));
        TeamRooms x = new TeamRooms();
        x.addRoom(20, 0, 1, 2);
        due(x.book(0, 0, 1, -1), INVALID);
        due(x.book(0, 0, 3, -1), INVALID);
        due(x.book(0, 0, 0, -1), INVALID);
        due(x.book(0, 0, 2, -1), 0);
    }

    private static TeamRooms withVouchers(int vouchers) {
        TeamRooms x = booked();
        for (int voucher = 0; voucher < vouchers; voucher++) {
            x.sellVoucher(10 + voucher);
        }
        return x;
    }

    @Says("Promise 6 | `voucher`: a voucher, or -1 for none")
    static void bookByWhichVoucher() {
        takes(-1, 7, voucher -> withVouchers(8).book(0, 0, 2, voucher));
        takes(-1, 0, voucher -> withVouchers(1).book(0, 0, 2, voucher));
        takes(-1, -1, voucher -> withVouchers(0).book(0, 0, 2, voucher));
        TeamRooms x = withVouchers(8);
        x.book(0, 0, 2, -1);
        due(x.booking(0, 6), 0);
        due(x.money(1), 108);
        x.book(0, 40, 2, 7);
        due(x.booking(1, 6), 17);
        due(x.voucher(7, 1), 0);
        due(x.money(1), 91);
    }

    @Says("Promise 6 | Returns its number")
    static void numbersOfBookings() {
        TeamRooms x = twoRooms();
        due(x.book(1, 300, 2, -1), 0);
        due(x.book(0, 300, 2, -1), 1);
        due(x.book(0, 300, 2, -1), ILLEGAL);
        due(x.book(0, 721, 2, -1), INVALID);
        due(x.book(0, 0, 2, -1), 2);
        x.undo();
        due(x.book(0, 1, 2, -1), 2);
        x.cancel(2);
        due(x.book(0, 1, 2, -1), 3);
    }

    @Says("Promise 6 | INVALID_ARGUMENT if an argument is out of range")
    static void bookOutOfRange() {
        refused(INVALID, TeamRooms::new, x -> x.book(0, 0, 2, -1));
        refused(INVALID, Sentences::mixed, x -> x.book(2, 700, 2, -1));
        refused(INVALID, Sentences::mixed, x -> x.book(0, 700, 2, 1));
        refused(INVALID, Sentences::mixed, x -> x.book(0, 700, 2, -2));
        refused(INVALID, Sentences::mixed, x -> x.book(0, 700, 7, -1));
        refused(INVALID, Sentences::mixed, x -> x.book(MAX, MAX, MAX, MAX));
        refused(INVALID, Sentences::mixed, x -> x.book(MIN, MIN, MIN, MIN));
        // It comes ahead of a time that is not possible, and of 16 bookings.
        refused(INVALID, Sentences::mixed, x -> x.book(0, 0, 1, -1));
        refused(INVALID, Sentences::mixed, x -> x.book(0, 0, 2, 1));
        refused(INVALID, BookingSentences::sixteenBookings, x -> x.book(0, 721, 2, -1));
        refused(INVALID, BookingSentences::sixteenBookings, x -> x.book(0, 0, 9, -1));
    }

    @Says("Promise 6 | ILLEGAL_STATE if the time is not possible")
    static void bookAtAnImpossibleTime() {
        refused(ILLEGAL, () -> booked(40), x -> x.book(0, 1, 2, -1));
        refused(ILLEGAL, () -> booked(40), x -> x.book(0, 79, 2, -1));
        refused(ILLEGAL, Sentences::mixed, x -> x.book(0, 39, 2, 0));
        // It comes ahead of 16 bookings.
        refused(ILLEGAL, BookingSentences::sixteenBookings, x -> x.book(0, 319, 2, -1));
        TeamRooms x = tight(16);
        due(x.book(0, 320, 2, -1), FULL);
        due(x.book(0, 319, 2, -1), ILLEGAL);
    }

    @Says("Promise 6 | CAPACITY_EXCEEDED if there are 16 bookings.")
    static void bookASeventeenth() {
        refused(FULL, BookingSentences::sixteenBookings, x -> x.book(0, 720, 2, -1));
        due(tight(15).book(0, 720, 2, -1), 15);
        TeamRooms x = tight(16);
        x.addRoom(20, 0, 1, 2);
        due(x.book(1, 0, 2, -1), FULL);
        x.play(0, 0, 0, 0);
        x.cancel(1);
        x.merge(2, 3);
        due(x.book(1, 0, 2, -1), FULL);
        due(x.book(0, 20, 2, -1), FULL);
    }

    @Says("Promise 7 | `int move(int booking, int time)`: Moves a booking to another time.")
    static void movesTheTimeAlone() {
        TeamRooms x = booked(0, 100);
        x.sellVoucher(15);
        x.book(0, 200, 3, 0);
        x.setPrice(0, 99);
        due(x.move(2, 720), 200);
        int[] properties = {0, 720, 3, 0, 30, 15, 15, 0, NONE, NONE, 1};
        for (int what = 0; what <= 10; what++) {
            due(x.booking(2, what), properties[what]);
        }
        due(x.move(2, 40), 720);
        due(x.move(0, 140), 0);
        due(x.move(2, 0), 40);
        due(x.room(0, 11), 2);
        due(x.booking(1, 1), 100);
        due(x.money(0), 70);
    }

    @Says("Promise 7 | This is an action.")
    static void moveIsAnAction() {
        isAction(() -> booked(0, 40), x -> x.move(1, 720));
        isAction(Sentences::mixed, x -> x.move(3, 40));
        // Also if nothing changes by it.
        isAction(() -> booked(0, 40), x -> x.move(1, 40));
        isNoAction(() -> booked(0, 40), x -> x.move(1, 39));
        isNoAction(Sentences::mixed, x -> x.move(0, 500));
    }

    @Says("Promise 7 | `booking`: a booking")
    static void moveWhich() {
        takes(0, 1, booking -> booked(100, 300).move(booking, 200));
        takes(0, 15, booking -> tight(16).move(booking, 720));
        due(booked().move(0, 0), INVALID);
    }

    @Says("Promise 7 | `time`: 0 to 720")
    static void moveTo() {
        takes(0, 720, time -> booked(100).move(0, time));
    }

    @Says("Promise 7 | Returns the previous time")
    static void previousTimes() {
        TeamRooms x = booked(720);
        due(x.move(0, 0), 720);
        due(x.move(0, 0), 0);
        due(x.move(0, 1), 0);
        due(x.move(0, 721), INVALID);
        due(x.move(0, 720), 1);
        x.undo();
        due(x.move(0, 5), 1);
    }

    @Says("Promise 7 | INVALID_ARGUMENT if an argument is out of range")
    static void moveOutOfRange() {
        refused(INVALID, Sentences::booked, x -> x.move(0, 0));
        refused(INVALID, Sentences::mixed, x -> x.move(5, 0));
        refused(INVALID, Sentences::mixed, x -> x.move(-1, 700));
        refused(INVALID, Sentences::mixed, x -> x.move(3, 721));
        refused(INVALID, Sentences::mixed, x -> x.move(3, -1));
        refused(INVALID, Sentences::mixed, x -> x.move(MIN, MAX));
        refused(INVALID, Sentences::mixed, x -> x.move(MAX, MIN));
        // It comes ahead of one that is not booked.
        refused(INVALID, Sentences::mixed, x -> x.move(0, 721));
        refused(INVALID, Sentences::mixed, x -> x.move(1, -1));
    }

    @Says("Promise 7 | ILLEGAL_STATE if it is not booked, or the time is not possible for it (itself left aside).")
    static void moveNotPossible() {
        refused(ILLEGAL, Sentences::mixed, x -> x.move(0, 700));
        refused(ILLEGAL, Sentences::mixed, x -> x.move(1, 700));
        refused(ILLEGAL, Sentences::mixed, x -> x.move(2, 700));
        refused(ILLEGAL, Sentences::mixed, x -> x.move(0, 0));
        refused(ILLEGAL, Sentences::mixed, x -> x.move(3, 39));
        refused(ILLEGAL, Sentences::mixed, x -> x.move(3, 121));
        due(mixed().move(3, 40), 120);
        TeamRooms x = booked(100, 200);
        due(x.move(0, 161), ILLEGAL);
        due(x.move(0, 239), ILLEGAL);
        due(x.move(0, 160), 100);
        due(x.move(0, 240), 160);
        // Itself is left aside, at the same time and near it.
        due(x.move(0, 240), 240);
        due(x.move(0, 241), 240);
        due(x.move(1, 201), 200);
        due(x.move(1, 202), ILLEGAL);
        TeamRooms y = booked(100, 300);
        y.play(0, 0, 0, 0);
        due(y.move(1, 60), ILLEGAL);
        due(y.move(1, 139), ILLEGAL);
        due(y.move(1, 140), 300);
    }

    @Says("Promise 9 | `int merge(int one, int other)`: Merges the team of a booking into that of another one: "
        + "the first one's players, its charge and its payments are added to the other one's (its voucher payments "
        + "behind those that are there), and it is merged then, with no players, charge and payments of its own.")
    static void mergesTeams() {
        TeamRooms x = booked(0);
        x.sellVoucher(15);
        x.sellVoucher(20);
        x.book(0, 40, 2, 0);
        x.book(0, 80, 2, 1);
        due(x.merge(1, 2), 4);
        int[] one = {0, 40, 0, 3, 0, 0, 0, 0, NONE, NONE, 0};
        int[] other = {0, 80, 4, 0, 40, 5, 35, 0, NONE, NONE, 2};
        for (int what = 0; what <= 10; what++) {
            due(x.booking(1, what), one[what]);
            due(x.booking(2, what), other[what]);
        }
        due(x.voucher(0, 2), 1);
        due(x.voucher(1, 2), 1);
        int[] amounts = {60, 0, 60, 0, 25, 35, 35};
        for (int what = 0; what <= 6; what++) {
            due(x.money(what), amounts[what]);
        }
        // Of the half 5 is cash, then 15 of voucher 0, which is behind voucher 1.
        due(x.cancel(2), 20);
        due(x.voucher(0, 1), 15);
        due(x.voucher(1, 1), 0);
    }

    @Says("Promise 9 | This is an action.")
    static void mergeIsAnAction() {
        isAction(() -> booked(0, 40), x -> x.merge(0, 1));
        isAction(() -> booked(0, 40), x -> x.merge(1, 0));
        isNoAction(() -> booked(0, 40), x -> x.merge(1, 1));
        isNoAction(Sentences::mixed, x -> x.merge(0, 3));
        isNoAction(Sentences::mixed, x -> x.merge(4, 3));
        TeamRooms x = booked();
        x.sellVoucher(100);
        x.book(0, 0, 2, 0);
        x.book(0, 40, 2, 0);
        x.merge(0, 1);
        x.undo();
        // Each payment is back in the row of its booking.
        due(x.booking(0, 10), 1);
        due(x.booking(1, 10), 1);
        due(x.cancel(0), 10);
        due(x.voucher(0, 1), 70);
        due(x.booking(1, 6), 20);
    }

    @Says("Promise 9 | `one`: a booking")
    static void mergeWhich() {
        takes(0, 1, one -> booked(0, 40, 80).merge(one, 2));
        takes(0, 14, one -> tight(16).merge(one, 15));
    }

    @Says("Promise 9 | `other`: a booking of the same room")
    static void mergeIntoWhich() {
        takes(1, 2, other -> booked(0, 40, 80).merge(0, other));
        takes(1, 15, other -> tight(16).merge(0, other));
        TeamRooms x = twoRooms();
        x.book(0, 0, 2, -1);
        x.book(1, 0, 2, -1);
        x.book(1, 180, 2, -1);
        due(x.merge(0, 1), ILLEGAL);
        due(x.merge(1, 0), ILLEGAL);
        due(x.merge(1, 2), 4);
    }

    @Says("Promise 9 | Returns the players of the other one then")
    static void playersThen() {
        TeamRooms x = tight(4);
        due(x.merge(0, 1), 4);
        due(x.merge(1, 2), 6);
        due(x.merge(2, 3), 8);
        due(x.booking(3, 2), 8);
        due(x.booking(0, 2) + x.booking(1, 2) + x.booking(2, 2), 0);
    }

    @Says("Promise 9 | INVALID_ARGUMENT if an argument is out of range, or both are the same")
    static void mergeOutOfRange() {
        refused(INVALID, Sentences::booked, x -> x.merge(0, 1));
        refused(INVALID, () -> booked(0, 40), x -> x.merge(0, 0));
        refused(INVALID, () -> booked(0, 40), x -> x.merge(2, 0));
        refused(INVALID, () -> booked(0, 40), x -> x.merge(0, 2));
        refused(INVALID, () -> booked(0, 40), x -> x.merge(-1, 0));
        refused(INVALID, () -> booked(0, 40), x -> x.merge(0, -1));
        refused(INVALID, () -> booked(0, 40), x -> x.merge(MIN, MAX));
        refused(INVALID, () -> booked(0, 40), x -> x.merge(MAX, MAX));
        // It comes ahead of one that is not booked.
        refused(INVALID, Sentences::mixed, x -> x.merge(0, 0));
        refused(INVALID, Sentences::mixed, x -> x.merge(1, 5));
        refused(INVALID, Sentences::mixed, x -> x.merge(5, 2));
    }

    @Says("Promise 9 | ILLEGAL_STATE if one of them is not booked, or they are for different rooms")
    static void mergeNotPossible() {
        for (int booking = 0; booking <= 2; booking++) {
            int gone = booking;
            refused(ILLEGAL, Sentences::mixed, x -> x.merge(gone, 3));
            refused(ILLEGAL, Sentences::mixed, x -> x.merge(3, gone));
        }
        // It comes ahead of too many players.
        TeamRooms x = booked();
        x.addRoom(30, 10, 10, 2);
        x.book(0, 0, 6, -1);
        x.book(1, 0, 2, -1);
        due(x.merge(0, 1), ILLEGAL);
        due(x.merge(1, 0), ILLEGAL);
        x.book(1, 40, 2, -1);
        due(x.merge(1, 2), FULL);
        x.cancel(2);
        due(x.merge(1, 2), ILLEGAL);
        due(x.merge(2, 1), ILLEGAL);
    }

    private static TeamRooms teams(int one, int other) {
        TeamRooms x = booked();
        x.book(0, 0, one, -1);
        x.book(0, 40, other, -1);
        return x;
    }

    @Says("Promise 9 | CAPACITY_EXCEEDED if the room does not have room for all these players.")
    static void mergeTooMany() {
        due(teams(2, 4).merge(0, 1), 6);
        due(teams(4, 2).merge(0, 1), 6);
        due(teams(3, 3).merge(1, 0), 6);
        refused(FULL, () -> teams(3, 4), x -> x.merge(0, 1));
        refused(FULL, () -> teams(5, 2), x -> x.merge(0, 1));
        refused(FULL, () -> teams(2, 5), x -> x.merge(0, 1));
        refused(FULL, () -> teams(6, 6), x -> x.merge(1, 0));
        TeamRooms x = tight(5);
        x.merge(0, 4);
        x.merge(1, 4);
        due(x.merge(2, 4), 8);
        due(x.merge(3, 4), FULL);
        due(x.merge(4, 3), FULL);
    }
}
