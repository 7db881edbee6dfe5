/** The sentences of "Forecasts" and of the promises 22 to 27. */
final class ForecastSentences extends Sentences {
    private static TeamRooms fourRooms() {
        TeamRooms x = new TeamRooms();
        for (int room = 0; room < 4; room++) {
            x.addRoom(40, 0, 1, 2);
            x.book(room, 0, 2, -1);
            x.book(room, 100, 2, -1);
        }
        return x;
    }

    private static void forecasts(TeamRooms x, int booking, int start, int delay, int refund) {
        due(x.forecast(booking, 0), start);
        due(x.forecast(booking, 1), delay);
        due(x.forecast(booking, 2), refund);
    }

    @Says("Forecasts | In the forecast of a room, its bookings that are booked are played one after the other "
        + "from now on, each taking the whole length of the room, without wreckage.")
    static void oneAfterTheOther() {
        TeamRooms x = booked(0, 40, 80, 125);
        x.addRoom(20, 0, 1, 2);
        x.book(1, 40, 2, -1);
        x.set(2, 20);
        for (int booking = 0; booking < 4; booking++) {
            forecasts(x, booking, x.booking(booking, 1), 0, 0);
        }
        // Free at 40 + 10 + 20: the delay of 30 goes on, but for the 5 minutes of place ahead of the last one.
        x.play(0, 30, 5, 1);
        forecasts(x, 1, 70, 30, 8);
        forecasts(x, 2, 110, 30, 8);
        forecasts(x, 3, 150, 25, 4);
        forecasts(x, 4, 40, 0, 0);
        // Those that are not booked take no time.
        x.cancel(1);
        forecasts(x, 2, 80, 0, 0);
        forecasts(x, 3, 125, 0, 0);
        x.undo();
        x.merge(1, 3);
        forecasts(x, 2, 80, 0, 0);
        x.undo();
        // What is played ahead of the forecast takes what it took.
        x.play(1, 1, 0, 0);
        forecasts(x, 2, 81, 1, 0);
        forecasts(x, 3, 125, 0, 0);
    }

    @Says("Forecasts | The forecast start of a booking is when it starts by this.")
    static void forecastStarts() {
        TeamRooms x = booked(720, 0);
        due(x.forecast(0, 0), 720);
        due(x.forecast(1, 0), 0);
        for (int delay : new int[] {0, 1, 199}) {
            TeamRooms y = delayed(delay, 2, 10);
            due(y.forecast(1, 0), 20 + delay);
            int start = y.forecast(1, 0);
            y.play(1, 0, 0, 0);
            due(y.booking(1, 8), start);
        }
        // Sixteen of them, each behind the other one, after a play with 9 units of wreckage.
        TeamRooms z = tight(16);
        z.play(0, 20, 0, 9);
        for (int booking = 1; booking < 16; booking++) {
            due(z.forecast(booking, 0), 65 + 20 * (booking - 1));
        }
    }

    @Says("Promise 22 | `int forecast(int booking, int what)`: Returns a part of the forecast of a booking.")
    static void forecastsChangeNothing() {
        TeamRooms x = mixed();
        for (int booking = -1; booking <= 5; booking++) {
            for (int what = -1; what <= 3; what++) {
                x.forecast(booking, what);
            }
        }
        samePicture(x, mixed());
    }

    @Says("Promise 22 | `booking`: a booking")
    static void forecastOfWhich() {
        takes(0, 1, booking -> booked(0, 40).forecast(booking, 0));
        takes(0, 15, booking -> tight(16).forecast(booking, 2));
        due(booked().forecast(0, 0), INVALID);
    }

    @Says("Promise 22 | `what`: 0 its forecast start, 1 its forecast delay, "
        + "2 what would be refunded for it if it was played with this delay")
    static void partsOfForecasts() {
        forecasts(delayed(0, 4, 25), 1, 20, 0, 0);
        forecasts(delayed(15, 4, 25), 1, 35, 15, 0);
        forecasts(delayed(16, 4, 25), 1, 36, 16, 20);
        forecasts(delayed(25, 4, 25), 1, 45, 25, 20);
        forecasts(delayed(26, 4, 25), 1, 46, 26, 40);
        forecasts(delayed(199, 4, 25), 1, 219, 199, 100);
        forecasts(delayed(16, 2, 2), 1, 36, 16, 0);
        // It is the refund of a play, not what cancel() would give.
        TeamRooms x = delayed(16, 4, 25);
        due(x.cancel(1), 100);
        x.undo();
        x.play(1, 1, 0, 0);
        due(x.booking(1, 7), 20);
    }

    @Says("Promise 22 | Returns the part")
    static void greatestForecast() {
        TeamRooms x = new TeamRooms();
        x.addRoom(120, 60, 200, 8);
        x.set(0, 10);
        x.set(1, 30);
        x.set(2, 20);
        for (int time = 0; time <= 720; time += 180) {
            x.book(0, time, 8, -1);
        }
        for (int booking = 0; booking < 4; booking++) {
            x.play(booking, 120, 20, 9);
        }
        forecasts(x, 4, 4 * 390, 4 * 390 - 720, 1600);
    }

    @Says("Promise 22 | INVALID_ARGUMENT if there is no such booking or what is out of range")
    static void forecastOutOfRange() {
        takes(0, 2, what -> booked(0).forecast(0, what));
        refused(INVALID, TeamRooms::new, x -> x.forecast(0, 0));
        refused(INVALID, Sentences::mixed, x -> x.forecast(5, 0));
        refused(INVALID, Sentences::mixed, x -> x.forecast(-1, 0));
        refused(INVALID, Sentences::mixed, x -> x.forecast(3, 3));
        refused(INVALID, Sentences::mixed, x -> x.forecast(3, -1));
        refused(INVALID, Sentences::mixed, x -> x.forecast(MIN, MIN));
        refused(INVALID, Sentences::mixed, x -> x.forecast(MAX, MAX));
        // It comes ahead of one that is not booked.
        refused(INVALID, Sentences::mixed, x -> x.forecast(0, 3));
        refused(INVALID, Sentences::mixed, x -> x.forecast(1, -1));
    }

    @Says("Promise 22 | NONE if it is not booked.")
    static void forecastOfNone() {
        for (int booking = 0; booking <= 2; booking++) {
            for (int what = 0; what <= 2; what++) {
                due(mixed().forecast(booking, what), NONE);
            }
        }
        holds(mixed().forecast(3, 0) >= 0);
        TeamRooms x = booked(0);
        x.play(0, 1, 1, 1);
        due(x.forecast(0, 1), NONE);
        x.undo();
        due(x.forecast(0, 1), 0);
    }

    @Says("Promise 23 | `int freeTime(int room, int from)`: Finds the earliest possible time for a further booking "
        + "of a room (also if there are 16 bookings).")
    static void earliestTimes() {
        TeamRooms x = booked();
        due(x.freeTime(0, 0), 0);
        x.book(0, 40, 2, -1);
        due(x.freeTime(0, 0), 0);
        due(x.freeTime(0, 1), 80);
        x.book(0, 159, 2, -1);
        // There is place for one from 80 to 119; up to 158 there would be for one of 39 minutes.
        due(x.freeTime(0, 1), 80);
        due(x.freeTime(0, 119), 119);
        due(x.freeTime(0, 120), 199);
        x.cancel(0);
        due(x.freeTime(0, 1), 1);
        x.book(0, 20, 2, -1);
        due(x.freeTime(0, 0), 60);
        x.merge(2, 1);
        due(x.freeTime(0, 0), 0);
        x.move(1, 100);
        x.play(1, 1, 0, 0);
        due(x.freeTime(0, 0), 140);
        due(x.freeTime(0, 141), 141);
        // Sixteen, one behind the other: no more can be booked, but the time is told.
        TeamRooms y = tight(16);
        due(y.freeTime(0, 0), 320);
        due(y.freeTime(0, 319), 320);
        due(y.book(0, 320, 2, -1), FULL);
        // Sixteen that were not made in the order of their times.
        TeamRooms z = tight(0);
        for (int booking = 0; booking < 16; booking++) {
            z.book(0, 20 * (booking * 7 % 16), 2, -1);
        }
        due(z.freeTime(0, 0), 320);
        z.cancel(7);
        due(z.freeTime(0, 0), 20);
        due(z.freeTime(0, 21), 320);
        dueLikeBook();
    }

    /** The earliest time is the first one, from any time on, at which book() does not refuse. */
    private static void dueLikeBook() {
        for (int from = 0; from <= 720; from += 9) {
            TeamRooms x = booked(700, 5, 120, 159, 300, 45);
            x.play(1, 1, 0, 0);
            int free = x.freeTime(0, from);
            int time = from;
            while (time <= 720 && x.book(0, time, 2, -1) < 0) {
                time++;
            }
            due(free, time <= 720 ? time : NONE);
        }
    }

    @Says("Promise 23 | `room`: a room")
    static void freeTimeOfWhich() {
        takes(0, 0, room -> booked(0).freeTime(room, 0));
        takes(0, 3, room -> fourRooms().freeTime(room, 0));
        due(new TeamRooms().freeTime(0, 0), INVALID);
    }

    @Says("Promise 23 | `from`: 0 to 720")
    static void freeTimeFrom() {
        takes(0, 720, from -> booked().freeTime(0, from));
    }

    @Says("Promise 23 | Returns the time, at least from, at most 720")
    static void firstAndLastFreeTime() {
        TeamRooms x = booked();
        due(x.freeTime(0, 0), 0);
        due(x.freeTime(0, 1), 1);
        due(x.freeTime(0, 719), 719);
        due(x.freeTime(0, 720), 720);
        x.book(0, 680, 2, -1);
        due(x.freeTime(0, 640), 640);
        due(x.freeTime(0, 641), 720);
        due(x.freeTime(0, 720), 720);
        x.move(0, 681);
        due(x.freeTime(0, 641), 641);
        due(x.freeTime(0, 642), NONE);
        due(x.freeTime(0, 720), NONE);
    }

    @Says("Promise 23 | INVALID_ARGUMENT if an argument is out of range")
    static void freeTimeOutOfRange() {
        refused(INVALID, TeamRooms::new, x -> x.freeTime(0, 0));
        refused(INVALID, Sentences::mixed, x -> x.freeTime(2, 0));
        refused(INVALID, Sentences::mixed, x -> x.freeTime(-1, 0));
        refused(INVALID, Sentences::mixed, x -> x.freeTime(0, 721));
        refused(INVALID, Sentences::mixed, x -> x.freeTime(0, -1));
        refused(INVALID, Sentences::mixed, x -> x.freeTime(MIN, MAX));
        refused(INVALID, Sentences::mixed, x -> x.freeTime(MAX, MIN));
        // It comes ahead of there being none.
        due(booked(720).freeTime(0, 721), INVALID);
    }

    @Says("Promise 23 | NONE if there is none.")
    static void noFreeTime() {
        refused(NONE, () -> booked(720), x -> x.freeTime(0, 681));
        due(booked(720).freeTime(0, 680), 680);
        due(booked(720).freeTime(0, 720), NONE);
        // Behind a play at the last time there is none, and none ahead of it counts.
        TeamRooms x = booked(720);
        x.play(0, 1, 0, 0);
        due(x.freeTime(0, 0), NONE);
        due(x.freeTime(0, 720), NONE);
        TeamRooms y = booked(680);
        y.play(0, 1, 0, 0);
        due(y.freeTime(0, 0), 720);
        TeamRooms z = booked(681);
        z.play(0, 1, 0, 0);
        due(z.freeTime(0, 0), NONE);
        // A room that is full from the first time to the last one.
        TeamRooms w = new TeamRooms();
        w.addRoom(120, 60, 1, 2);
        for (int time = 0; time <= 720; time += 180) {
            w.book(0, time, 2, -1);
        }
        due(w.freeTime(0, 0), NONE);
        w.cancel(2);
        due(w.freeTime(0, 0), 360);
        due(w.freeTime(0, 361), NONE);
    }

    private static TeamRooms teams(int... players) {
        TeamRooms x = booked();
        for (int at = 0; at < players.length; at++) {
            x.book(0, 40 * at, players[at], -1);
        }
        return x;
    }

    private static void pair(TeamRooms x, int one, int other, int players) {
        due(x.mergeable(0, 0), one);
        due(x.mergeable(0, 1), other);
        due(x.mergeable(0, 2), players);
        if (one >= 0) {
            due(x.merge(one, other), players);
        }
    }

    @Says("Promise 24 | `int mergeable(int room, int what)`: Finds two bookings of a room that can be merged "
        + "(as merge(one, other) with a smaller number for one), such that their players together are the most, "
        + "of several the two with the smallest one, then with the smallest other one.")
    static void bestPairs() {
        pair(teams(2, 2), 0, 1, 4);
        pair(teams(2, 4), 0, 1, 6);
        pair(teams(4, 2), 0, 1, 6);
        pair(teams(2, 2, 3), 0, 2, 5);
        pair(teams(3, 2, 2), 0, 1, 5);
        pair(teams(2, 3, 3), 1, 2, 6);
        // More than there is room for is not merged: the most of the others are found.
        pair(teams(5, 2, 2), 1, 2, 4);
        pair(teams(6, 5, 4, 2), 2, 3, 6);
        pair(teams(2, 5, 4, 3), 0, 2, 6);
        // Several of the same: the smallest one, then the smallest other one.
        pair(teams(2, 2, 2, 2), 0, 1, 4);
        pair(teams(2, 4, 2, 4), 0, 1, 6);
        pair(teams(3, 2, 4, 3), 0, 3, 6);
        pair(teams(5, 3, 4, 2, 3), 1, 4, 6);
        pair(teams(4, 6, 2, 2), 0, 2, 6);
        // Only those of the room that are booked.
        TeamRooms x = teams(4, 2, 4, 2, 2);
        x.addRoom(20, 0, 1, 8);
        x.book(1, 0, 2, -1);
        x.book(1, 20, 5, -1);
        due(x.mergeable(1, 0), 5);
        due(x.mergeable(1, 1), 6);
        due(x.mergeable(1, 2), 7);
        x.play(0, 1, 0, 0);
        x.cancel(1);
        pair(x, 2, 3, 6);
        pair(x, NONE, NONE, NONE);
    }

    @Says("Promise 24 | `room`: a room")
    static void mergeableOfWhich() {
        takes(0, 3, room -> fourRoomsOfPairs().mergeable(room, 2));
        due(new TeamRooms().mergeable(0, 0), INVALID);
    }

    private static TeamRooms fourRoomsOfPairs() {
        TeamRooms x = new TeamRooms();
        for (int room = 0; room < 4; room++) {
            x.addRoom(20, 0, 1, 4 + room);
            x.book(room, 0, 2, -1);
            x.book(room, 20, 2, -1);
        }
        return x;
    }

    @Says("Promise 24 | `what`: 0 for the one with the smaller number, 1 for the other one, "
        + "2 for their players together")
    static void partsOfPairs() {
        takes(0, 2, what -> booked(0, 40).mergeable(0, what));
        // The one with the smaller number, also if it is the later one.
        pair(booked(400, 0), 0, 1, 4);
    }

    @Says("Promise 24 | Returns the number")
    static void firstAndLastPair() {
        TeamRooms x = tight(16);
        due(x.mergeable(0, 0), 0);
        due(x.mergeable(0, 1), 1);
        for (int booking = 0; booking < 14; booking++) {
            x.cancel(booking);
        }
        due(x.mergeable(0, 0), 14);
        due(x.mergeable(0, 1), 15);
        due(x.mergeable(0, 2), 4);
        TeamRooms y = tight(0);
        y.book(0, 0, 4, -1);
        y.book(0, 20, 4, -1);
        due(y.mergeable(0, 2), 8);
    }

    @Says("Promise 24 | INVALID_ARGUMENT if an argument is out of range")
    static void mergeableOutOfRange() {
        refused(INVALID, TeamRooms::new, x -> x.mergeable(0, 0));
        refused(INVALID, Sentences::mixed, x -> x.mergeable(2, 0));
        refused(INVALID, Sentences::mixed, x -> x.mergeable(-1, 0));
        refused(INVALID, Sentences::mixed, x -> x.mergeable(0, 3));
        refused(INVALID, Sentences::mixed, x -> x.mergeable(0, -1));
        refused(INVALID, Sentences::mixed, x -> x.mergeable(MIN, MAX));
        refused(INVALID, Sentences::mixed, x -> x.mergeable(MAX, MIN));
        // It comes ahead of there being no such two.
        due(booked().mergeable(0, 3), INVALID);
        due(booked().mergeable(1, 0), INVALID);
    }

    @Says("Promise 24 | NONE if there are no such two.")
    static void noPair() {
        for (int what = 0; what <= 2; what++) {
            due(booked().mergeable(0, what), NONE);
            due(booked(0).mergeable(0, what), NONE);
            due(teams(5, 2).mergeable(0, what), NONE);
            due(teams(6, 5, 4, 3).mergeable(0, what), NONE);
            due(mixed().mergeable(1, what), NONE);
            // 4 and 3 players are too many.
            due(mixed().mergeable(0, what), NONE);
        }
        TeamRooms x = booked(0, 40);
        x.addRoom(30, 10, 10, 6);
        x.cancel(1);
        x.book(1, 40, 2, -1);
        due(x.mergeable(0, 0), NONE);
        due(x.mergeable(1, 0), NONE);
    }

    @Says("Promise 25 | `int slack(int room)`: Tells how many minutes of delay a room could have got until now "
        + "(its time when it is free being later by these) with which no booking of it that is booked "
        + "would have a forecast delay that is more than the patience.")
    static void slacks() {
        due(booked(0).slack(0), 15);
        due(booked(1).slack(0), 16);
        due(booked(100, 700).slack(0), 115);
        due(booked(700, 100).slack(0), 115);
        due(booked(700, 100, 140, 180, 221).slack(0), 115);
        TeamRooms x = booked(0, 100);
        x.set(3, 0);
        due(x.slack(0), 0);
        x.play(0, 30, 0, 0);
        due(x.slack(0), 60);
        x.set(3, 60);
        due(x.slack(0), 120);
        x.addRoom(20, 0, 1, 2);
        x.book(1, 0, 2, -1);
        due(x.slack(0), 120);
        due(x.slack(1), 60);
        // So many minutes of wreckage more make no delay that is too much, one more does.
        for (int more = 0; more <= 1; more++) {
            TeamRooms y = booked(0, 60, 100, 141);
            y.set(0, 1);
            y.set(1, 30);
            due(y.play(0, 30, 20, 0), 50);
            due(y.slack(0), 15);
            y.undo();
            y.set(2, 15 + more);
            y.play(0, 30, 20, 1);
            due(y.forecast(1, 1), 15 + more);
            due(y.forecast(3, 1), 14 + more);
            due(y.slack(0), more == 0 ? 0 : NONE);
        }
    }

    @Says("Promise 25 | `room`: a room")
    static void slackOfWhich() {
        takes(0, 3, room -> fourRooms().slack(room));
        takes(0, 0, room -> booked(0).slack(room));
        due(new TeamRooms().slack(0), INVALID);
    }

    @Says("Promise 25 | Returns the greatest such number, 0 to 999")
    static void leastAndGreatestSlack() {
        due(delayed(15, 2, 10).slack(0), 0);
        due(delayed(14, 2, 10).slack(0), 1);
        due(delayed(0, 2, 10).slack(0), 15);
        TeamRooms x = booked(720);
        due(x.slack(0), 735);
        x.set(3, 0);
        due(x.slack(0), 720);
        x.set(3, 60);
        due(x.slack(0), 780);
    }

    @Says("Promise 25 | INVALID_ARGUMENT if there is no such room")
    static void slackOutOfRange() {
        refused(INVALID, TeamRooms::new, x -> x.slack(0));
        refused(INVALID, Sentences::mixed, x -> x.slack(2));
        refused(INVALID, Sentences::mixed, x -> x.slack(-1));
        refused(INVALID, Sentences::mixed, x -> x.slack(MIN));
        refused(INVALID, Sentences::mixed, x -> x.slack(MAX));
    }

    @Says("Promise 25 | NONE if there is one already that has such a delay, or none is booked.")
    static void noSlack() {
        due(delayed(16, 2, 10).slack(0), NONE);
        due(delayed(199, 2, 10).slack(0), NONE);
        TeamRooms x = delayed(1, 2, 10);
        x.set(3, 0);
        due(x.slack(0), NONE);
        due(booked().slack(0), NONE);
        TeamRooms y = booked(0, 40, 80);
        y.cancel(0);
        y.merge(1, 2);
        due(y.slack(0), 95);
        y.play(2, 0, 0, 0);
        due(y.slack(0), NONE);
        y.undo();
        y.cancel(2);
        due(y.slack(0), NONE);
        // The delay of one that is played does not count.
        TeamRooms z = delayed(16, 2, 10);
        z.play(1, 1, 0, 0);
        due(z.slack(0), NONE);
        z.book(0, 700, 2, -1);
        due(z.slack(0), 715 - 37);
    }

    private static int hints(int goal, int cost, int grace) {
        TeamRooms x = booked(0);
        x.set(0, cost);
        x.set(1, grace);
        int hints = x.hintsFor(0, goal);
        // So many hints are not too many for a play that is solved, and one more is.
        x.play(0, goal, hints, 0);
        due(x.room(0, 6), 1);
        x.undo();
        x.play(0, goal, Math.min(20, hints + 1), 0);
        due(x.room(0, 6), hints < 20 ? 0 : 1);
        return hints;
    }

    @Says("Promise 26 | `int hintsFor(int booking, int goal)`: Tells how many hints a team could have "
        + "so that a play would still be solved.")
    static void possibleHints() {
        due(hints(30, 2, 10), 5);
        due(hints(29, 2, 10), 5);
        due(hints(28, 2, 10), 6);
        due(hints(1, 2, 10), 19);
        due(hints(30, 1, 10), 10);
        due(hints(30, 3, 10), 3);
        due(hints(28, 3, 10), 4);
        due(hints(30, 10, 9), 0);
        due(hints(30, 10, 10), 1);
        due(hints(30, 10, 11), 1);
        due(hints(30, 1, 0), 0);
        due(hints(29, 1, 0), 1);
    }

    @Says("Promise 26 | `booking`: a booking")
    static void hintsForWhich() {
        takes(0, 1, booking -> booked(0, 40).hintsFor(booking, 1));
        takes(0, 15, booking -> tight(16).hintsFor(booking, 1));
        due(booked().hintsFor(0, 1), INVALID);
    }

    @Says("Promise 26 | `goal`: 1 to the length of its room")
    static void hintsForWhichGoal() {
        takes(1, 30, goal -> booked(0).hintsFor(0, goal));
        takes(1, 20, goal -> tight(1).hintsFor(0, goal));
        due(booked(0).hintsFor(0, 0), INVALID);
        TeamRooms x = booked(0);
        x.addRoom(120, 0, 1, 2);
        x.book(1, 0, 2, -1);
        due(x.hintsFor(1, 120), 5);
        due(x.hintsFor(1, 121), INVALID);
        due(x.hintsFor(0, 120), INVALID);
    }

    @Says("Promise 26 | Returns the greatest number of hints, 0 to 20")
    static void leastAndMostHints() {
        due(hints(30, 2, 0), 0);
        due(hints(30, 2, 1), 0);
        due(hints(30, 2, 2), 1);
        due(hints(1, 10, 0), 2);
        due(hints(21, 1, 10), 19);
        due(hints(20, 1, 10), 20);
        due(hints(19, 1, 10), 20);
        due(hints(1, 1, 30), 20);
        // Hints that cost nothing.
        due(hints(30, 0, 0), 20);
        due(hints(1, 0, 30), 20);
    }

    @Says("Promise 26 | INVALID_ARGUMENT if an argument is out of range")
    static void hintsForOutOfRange() {
        refused(INVALID, TeamRooms::new, x -> x.hintsFor(0, 1));
        refused(INVALID, Sentences::mixed, x -> x.hintsFor(5, 1));
        refused(INVALID, Sentences::mixed, x -> x.hintsFor(-1, 1));
        refused(INVALID, Sentences::mixed, x -> x.hintsFor(3, 0));
        refused(INVALID, Sentences::mixed, x -> x.hintsFor(3, 31));
        refused(INVALID, Sentences::mixed, x -> x.hintsFor(MIN, MIN));
        refused(INVALID, Sentences::mixed, x -> x.hintsFor(MAX, MAX));
        // It comes ahead of one that is not booked.
        for (int booking = 0; booking <= 2; booking++) {
            due(mixed().hintsFor(booking, 0), INVALID);
            due(mixed().hintsFor(booking, 31), INVALID);
        }
    }

    @Says("Promise 26 | ILLEGAL_STATE if it is not booked.")
    static void hintsForOneThatIsNotBooked() {
        refused(ILLEGAL, Sentences::mixed, x -> x.hintsFor(0, 1));
        refused(ILLEGAL, Sentences::mixed, x -> x.hintsFor(1, 1));
        refused(ILLEGAL, Sentences::mixed, x -> x.hintsFor(2, 30));
        due(mixed().hintsFor(3, 30), 5);
        due(mixed().hintsFor(4, 30), 5);
    }

    @Says("Promise 27 | `int busiest(int place)`: Finds the rooms by their use: by descending minutes of plays, "
        + "of the same minutes by ascending numbers.")
    static void byUse() {
        TeamRooms x = fourRooms();
        places(x, 0, 1, 2, 3);
        x.play(6, 20, 0, 0);
        places(x, 3, 0, 1, 2);
        x.play(4, 20, 0, 0);
        places(x, 2, 3, 0, 1);
        x.play(0, 19, 0, 0);
        places(x, 2, 3, 0, 1);
        x.play(2, 21, 0, 0);
        places(x, 1, 2, 3, 0);
        x.play(1, 1, 0, 0);
        places(x, 1, 0, 2, 3);
        x.play(7, 40, 0, 0);
        places(x, 3, 1, 0, 2);
        x.undo();
        places(x, 1, 0, 2, 3);
    }

    private static void places(TeamRooms x, int... rooms) {
        for (int place = 0; place < rooms.length; place++) {
            due(x.busiest(place), rooms[place]);
        }
        due(x.busiest(rooms.length), NONE);
    }

    @Says("Promise 27 | `place`: 0 for the first one")
    static void firstPlace() {
        due(booked().busiest(0), 0);
        TeamRooms x = fourRooms();
        x.play(4, 1, 0, 0);
        due(x.busiest(0), 2);
    }

    @Says("Promise 27 | Returns the room")
    static void lastPlace() {
        TeamRooms x = fourRooms();
        due(x.busiest(3), 3);
        x.play(6, 1, 0, 0);
        due(x.busiest(3), 2);
        due(x.busiest(0), 3);
    }

    @Says("Promise 27 | INVALID_ARGUMENT if place is negative")
    static void negativePlaces() {
        refused(INVALID, TeamRooms::new, x -> x.busiest(-1));
        refused(INVALID, Sentences::mixed, x -> x.busiest(-1));
        refused(INVALID, Sentences::mixed, x -> x.busiest(MIN));
    }

    @Says("Promise 27 | NONE if there are not so many.")
    static void notSoMany() {
        refused(NONE, TeamRooms::new, x -> x.busiest(0));
        due(booked().busiest(1), NONE);
        due(mixed().busiest(2), NONE);
        due(fourRooms().busiest(4), NONE);
        due(fourRooms().busiest(MAX), NONE);
    }
}
