/** The sentences of "Plays" and of promise 10. */
final class PlaySentences extends Sentences {
    @Says("Plays | The bookings of a room that are booked are played by ascending times.")
    static void byAscendingTimes() {
        TeamRooms x = booked(80, 0, 40, 120);
        x.addRoom(20, 0, 10, 8);
        x.book(1, 700, 2, -1);
        due(x.play(0, 1, 0, 0), ILLEGAL);
        due(x.play(2, 1, 0, 0), ILLEGAL);
        due(x.play(4, 1, 0, 0), 1);
        due(x.play(1, 1, 0, 0), 1);
        due(x.play(0, 1, 0, 0), ILLEGAL);
        due(x.play(2, 1, 0, 0), 1);
        x.cancel(0);
        due(x.play(3, 1, 0, 0), 1);
        TeamRooms y = booked(0, 40, 80);
        y.merge(0, 2);
        y.move(1, 700);
        due(y.play(1, 1, 0, 0), ILLEGAL);
        due(y.play(2, 1, 0, 0), 1);
        due(y.play(1, 1, 0, 0), 1);
    }

    @Says("Plays | The room is free at the time 0 at first.")
    static void freeAtFirst() {
        TeamRooms x = booked(0);
        due(x.room(0, 4), 0);
        due(x.forecast(0, 0), 0);
        due(x.play(0, 1, 0, 0), 1);
        due(x.booking(0, 8), 0);
        due(x.room(0, 9), 0);
    }

    /** The start of a second play, planned at 40, where the first one ends its 10 minutes of reset at this time. */
    private static int startBehind(int free) {
        TeamRooms x = booked(0, 40);
        x.set(0, 1);
        x.play(0, free <= 40 ? free - 10 : 30, Math.max(0, free - 40), 0);
        due(x.room(0, 4), free);
        x.play(1, 30, 0, 0);
        due(x.room(0, 9), x.booking(1, 8) - 40);
        return x.booking(1, 8);
    }

    @Says("Plays | A play starts at the planned time of the booking, or, if that is later, when the room is free")
    static void starts() {
        due(startBehind(11), 40);
        due(startBehind(39), 40);
        due(startBehind(40), 40);
        due(startBehind(41), 41);
        due(startBehind(50), 50);
        TeamRooms x = booked(720);
        x.play(0, 30, 0, 0);
        due(x.booking(0, 8), 720);
        due(x.room(0, 4), 760);
    }

    @Says("Plays | the delay is the start less the planned time.")
    static void delays() {
        for (int delay : new int[] {0, 1, 15, 16, 199}) {
            TeamRooms x = delayed(delay, 2, 10);
            x.play(1, 20, 0, 0);
            due(x.booking(1, 8), 20 + delay);
            due(x.room(0, 9), delay);
        }
    }

    @Says("Plays | The goal g is the minute (1 to the length) in which the team would be done without any hints, "
        + "or 0 if it gives up.")
    static void goals() {
        TeamRooms x = booked(0, 40, 80);
        due(x.play(0, 31, 0, 0), INVALID);
        due(x.play(0, -1, 0, 0), INVALID);
        due(x.play(0, 1, 0, 0), 1);
        due(x.play(1, 30, 0, 0), 30);
        due(x.room(0, 6), 2);
        due(x.play(2, 0, 0, 0), 30);
        due(x.room(0, 6), 2);
        due(x.room(0, 10), 0);
    }

    @Says("Plays | The effort is g plus the hints times the minutes that a hint costs.")
    static void efforts() {
        TeamRooms x = new TeamRooms();
        x.addRoom(120, 0, 10, 8);
        x.set(1, 30);
        for (int at = 0; at < 6; at++) {
            x.book(0, 120 * at, 2, -1);
        }
        due(x.play(0, 7, 0, 0), 7);
        due(x.play(1, 7, 1, 0), 9);
        due(x.play(2, 7, 20, 0), 47);
        x.set(0, 10);
        due(x.play(3, 7, 14, 0), 147);
        x.set(0, 0);
        due(x.play(4, 7, 20, 0), 7);
        x.set(0, 1);
        due(x.play(5, 120, 20, 0), 140);
        due(x.room(0, 6), 6);
        due(x.room(0, 7), 75);
    }

    /** Plays the only booking of a room of 30 minutes and looks at what it takes, and whether solved or overrun. */
    private static void result(int grace, int goal, int hints, int minutes, int solved, int overruns) {
        TeamRooms x = booked(0);
        x.set(0, 1);
        x.set(1, grace);
        due(x.play(0, goal, hints, 0), minutes);
        due(x.booking(0, 9), minutes);
        due(x.room(0, 8), minutes);
        due(x.room(0, 6), solved);
        due(x.room(0, 10), overruns);
        due(x.room(0, 7), hints);
        due(x.room(0, 4), minutes + 10);
    }

    @Says("Plays | If g is 0, the play takes the whole length of the room, and is not solved.")
    static void givenUp() {
        result(10, 0, 0, 30, 0, 0);
        result(0, 0, 0, 30, 0, 0);
        result(30, 0, 20, 30, 0, 0);
        result(0, 0, 20, 30, 0, 0);
        // Whatever its hints would cost, it is no overrun.
        TeamRooms x = booked(0, 40);
        x.set(0, 10);
        due(x.play(0, 0, 20, 0), 30);
        due(x.play(1, 0, 4, 0), 30);
        due(x.room(0, 6), 0);
        due(x.room(0, 10), 0);
    }

    @Says("Plays | Otherwise, if the effort is at most the length plus the grace, the play takes the effort, "
        + "and is solved (and it is an overrun if the effort is more than the length).")
    static void solved() {
        result(10, 1, 0, 1, 1, 0);
        result(10, 29, 0, 29, 1, 0);
        result(10, 30, 0, 30, 1, 0);
        result(10, 29, 1, 30, 1, 0);
        result(10, 30, 1, 31, 1, 1);
        result(10, 30, 9, 39, 1, 1);
        result(10, 30, 10, 40, 1, 1);
        result(10, 20, 20, 40, 1, 1);
        result(0, 30, 0, 30, 1, 0);
        result(0, 10, 20, 30, 1, 0);
        result(20, 30, 20, 50, 1, 1);
        result(1, 30, 1, 31, 1, 1);
    }

    @Says("Plays | Otherwise the play takes the length plus the grace, is not solved, and is an overrun, too "
        + "(also with a grace of 0).")
    static void neitherSolvedNorGivenUp() {
        result(10, 30, 11, 40, 0, 1);
        result(10, 30, 20, 40, 0, 1);
        result(10, 21, 20, 40, 0, 1);
        result(0, 30, 1, 30, 0, 1);
        result(0, 30, 20, 30, 0, 1);
        result(0, 11, 20, 30, 0, 1);
        result(1, 30, 2, 31, 0, 1);
        result(19, 30, 20, 49, 0, 1);
        result(0, 12, 20, 30, 0, 1);
        // The least goal with dear hints.
        TeamRooms x = booked(0, 40);
        x.set(0, 10);
        due(x.play(0, 1, 4, 0), 40);
        due(x.room(0, 10), 1);
        due(x.room(0, 6), 0);
        x.set(1, 11);
        due(x.play(1, 1, 4, 0), 41);
        due(x.room(0, 10), 2);
        due(x.room(0, 6), 1);
    }

    private static int freeBehind(int reset, int unit, int wreckage) {
        TeamRooms x = new TeamRooms();
        x.addRoom(30, reset, 10, 6);
        x.book(0, 100, 2, -1);
        x.set(2, unit);
        x.play(0, 7, 0, wreckage);
        return x.room(0, 4);
    }

    @Says("Plays | Behind the play the room is free after its reset and the wreckage times the minutes for each unit.")
    static void freeBehindAPlay() {
        due(freeBehind(0, 5, 0), 107);
        due(freeBehind(60, 5, 0), 167);
        due(freeBehind(0, 5, 1), 112);
        due(freeBehind(0, 0, 9), 107);
        due(freeBehind(0, 20, 9), 287);
        due(freeBehind(60, 20, 9), 347);
        // A later time than all the times of bookings.
        TeamRooms x = new TeamRooms();
        x.addRoom(120, 60, 10, 6);
        x.book(0, 720, 2, -1);
        x.set(1, 30);
        x.set(2, 20);
        x.play(0, 120, 20, 9);
        due(x.room(0, 4), 720 + 150 + 60 + 180);
    }

    private static int refundOf(int delay, int patience, int percentage, int charge) {
        TeamRooms x = delayed(delay, 2, charge / 2);
        x.set(3, patience);
        x.set(4, percentage);
        int promised = x.forecast(1, 2);
        x.play(1, 0, 0, 0);
        due(x.booking(1, 7), promised);
        due(x.booking(1, 5), charge - promised);
        due(x.booking(1, 4), charge);
        due(x.money(0), 2 * charge - promised);
        due(x.money(3), promised);
        return promised;
    }

    @Says("Plays | If the delay is more than the patience, a share of the charge is refunded: the percentage "
        + "for each 10 minutes (the last ones possibly begun only) by which the delay is more than the patience, "
        + "at most 100")
    static void shares() {
        due(refundOf(0, 15, 20, 100), 0);
        due(refundOf(15, 15, 20, 100), 0);
        due(refundOf(16, 15, 20, 100), 20);
        due(refundOf(24, 15, 20, 100), 20);
        due(refundOf(25, 15, 20, 100), 20);
        due(refundOf(26, 15, 20, 100), 40);
        due(refundOf(35, 15, 20, 100), 40);
        due(refundOf(36, 15, 20, 100), 60);
        due(refundOf(55, 15, 20, 100), 80);
        due(refundOf(56, 15, 20, 100), 100);
        due(refundOf(65, 15, 20, 100), 100);
        due(refundOf(66, 15, 20, 100), 100);
        due(refundOf(199, 15, 20, 100), 100);
        due(refundOf(0, 0, 20, 100), 0);
        due(refundOf(1, 0, 20, 100), 20);
        due(refundOf(10, 0, 20, 100), 20);
        due(refundOf(11, 0, 20, 100), 40);
        due(refundOf(60, 60, 50, 100), 0);
        due(refundOf(61, 60, 50, 100), 50);
        due(refundOf(70, 60, 50, 100), 50);
        due(refundOf(71, 60, 50, 100), 100);
        due(refundOf(81, 60, 50, 100), 100);
        due(refundOf(199, 0, 0, 100), 0);
        due(refundOf(31, 0, 33, 100), 100);
        due(refundOf(30, 0, 33, 100), 99);
        due(refundOf(199, 0, 5, 100), 100);
        due(refundOf(190, 0, 5, 100), 95);
        due(refundOf(199, 0, 1, 100), 20);
    }

    @Says("Plays | of this share of the charge whole euros, rounded down.")
    static void wholeEuros() {
        due(refundOf(1, 0, 20, 2), 0);
        due(refundOf(1, 0, 20, 4), 0);
        due(refundOf(1, 0, 20, 6), 1);
        due(refundOf(1, 0, 20, 8), 1);
        due(refundOf(1, 0, 20, 10), 2);
        due(refundOf(1, 0, 50, 2), 1);
        due(refundOf(1, 0, 49, 2), 0);
        due(refundOf(1, 0, 1, 400), 4);
        due(refundOf(1, 0, 1, 398), 3);
        due(refundOf(21, 0, 33, 2), 1);
        due(refundOf(31, 0, 33, 2), 2);
        due(refundOf(30, 0, 33, 2), 1);
    }

    @Says("Promise 10 | `int play(int booking, int goal, int hints, int wreckage)`: Plays a booking.")
    static void plays() {
        TeamRooms x = booked(5);
        x.addRoom(30, 10, 10, 6);
        due(x.play(0, 20, 3, 2), 26);
        int[] booking = {0, 5, 2, 1, 20, 20, 0, 0, 5, 26, 0};
        for (int what = 0; what <= 10; what++) {
            due(x.booking(0, what), booking[what]);
        }
        int[] room = {30, 10, 10, 6, 51, 1, 1, 3, 26, 0, 0, NONE};
        int[] other = {30, 10, 10, 6, 0, 0, 0, 0, 0, 0, 0, NONE};
        for (int what = 0; what <= 11; what++) {
            due(x.room(0, what), room[what]);
            due(x.room(1, what), other[what]);
        }
    }

    @Says("Promise 10 | This is an action.")
    static void playIsAnAction() {
        isAction(() -> booked(0), x -> x.play(0, 0, 0, 0));
        isAction(() -> booked(0, 40), x -> x.play(0, 30, 20, 9));
        isAction(Sentences::mixed, x -> x.play(3, 1, 1, 1));
        isAction(() -> delayed(199, 8, 200), x -> x.play(1, 1, 1, 1));
        isNoAction(() -> booked(0, 40), x -> x.play(1, 1, 1, 1));
        isNoAction(() -> booked(0), x -> x.play(0, 31, 1, 1));
    }

    @Says("Promise 10 | `booking`: a booking")
    static void playWhich() {
        takes(0, 0, booking -> booked(0).play(booking, 1, 1, 1));
        TeamRooms x = tight(16);
        due(x.play(16, 1, 0, 0), INVALID);
        for (int booking = 0; booking < 16; booking++) {
            due(x.play(booking, 1, 0, 0), 1);
        }
        due(x.play(16, 1, 0, 0), INVALID);
        due(x.room(0, 5), 16);
    }

    @Says("Promise 10 | `goal`: 0 to the length of its room")
    static void goalsOfPlays() {
        takes(0, 30, goal -> booked(0).play(0, goal, 0, 0));
        takes(0, 20, goal -> tight(1).play(0, goal, 0, 0));
        TeamRooms x = booked(0);
        x.addRoom(120, 0, 1, 2);
        x.book(1, 0, 2, -1);
        due(x.play(0, 120, 0, 0), INVALID);
        due(x.play(1, 121, 0, 0), INVALID);
        due(x.play(1, 120, 0, 0), 120);
    }

    @Says("Promise 10 | `hints`: 0 to 20")
    static void hintsOfPlays() {
        takes(0, 20, hints -> booked(0).play(0, 1, hints, 0));
        takes(0, 20, hints -> booked(0).play(0, 0, hints, 0));
    }

    @Says("Promise 10 | `wreckage`: 0 to 9")
    static void wreckageOfPlays() {
        takes(0, 9, wreckage -> booked(0).play(0, 1, 0, wreckage));
    }

    @Says("Promise 10 | Returns the minutes that the play takes")
    static void minutesOfPlays() {
        TeamRooms x = booked(0, 40, 80, 120);
        due(x.play(0, 1, 0, 9), 1);
        due(x.play(1, 0, 20, 0), 30);
        due(x.play(2, 30, 5, 0), 40);
        due(x.play(3, 30, 6, 0), 40);
        int[] minutes = {1, 30, 40, 40};
        for (int booking = 0; booking < 4; booking++) {
            due(x.booking(booking, 9), minutes[booking]);
        }
        due(x.room(0, 8), 111);
    }

    @Says("Promise 10 | INVALID_ARGUMENT if an argument is out of range")
    static void playOutOfRange() {
        refused(INVALID, TeamRooms::new, x -> x.play(0, 0, 0, 0));
        refused(INVALID, () -> booked(0), x -> x.play(1, 0, 0, 0));
        refused(INVALID, () -> booked(0), x -> x.play(-1, 0, 0, 0));
        refused(INVALID, () -> booked(0), x -> x.play(0, 31, 0, 0));
        refused(INVALID, () -> booked(0), x -> x.play(0, 0, 21, 0));
        refused(INVALID, () -> booked(0), x -> x.play(0, 0, 0, 10));
        refused(INVALID, Sentences::mixed, x -> x.play(MIN, MIN, MIN, MIN));
        refused(INVALID, Sentences::mixed, x -> x.play(MAX, MAX, MAX, MAX));
        // It comes ahead of one that is not booked, or not the earliest.
        for (int booking = 0; booking <= 4; booking++) {
            int some = booking;
            refused(INVALID, Sentences::mixed, x -> x.play(some, 31, 0, 0));
            refused(INVALID, Sentences::mixed, x -> x.play(some, 0, -1, 0));
            refused(INVALID, Sentences::mixed, x -> x.play(some, 0, 0, -1));
        }
    }

    @Says("Promise 10 | ILLEGAL_STATE if it is not booked, "
        + "or another booking of this room that is booked has an earlier time.")
    static void playNotPossible() {
        refused(ILLEGAL, Sentences::mixed, x -> x.play(0, 0, 0, 0));
        refused(ILLEGAL, Sentences::mixed, x -> x.play(1, 0, 0, 0));
        refused(ILLEGAL, Sentences::mixed, x -> x.play(2, 0, 0, 0));
        refused(ILLEGAL, Sentences::mixed, x -> x.play(4, 0, 0, 0));
        due(mixed().play(3, 0, 0, 0), 30);
        // Of the earlier ones only those count that are booked, and of this room.
        TeamRooms x = booked(0, 40, 80, 120);
        x.addRoom(30, 10, 10, 6);
        x.book(1, 0, 2, -1);
        due(x.play(3, 0, 0, 0), ILLEGAL);
        x.play(0, 0, 0, 0);
        due(x.play(3, 0, 0, 0), ILLEGAL);
        x.cancel(1);
        due(x.play(3, 0, 0, 0), ILLEGAL);
        x.merge(2, 3);
        due(x.play(3, 0, 0, 0), 30);
        due(x.play(3, 0, 0, 0), ILLEGAL);
    }
}
