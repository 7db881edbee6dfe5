/** The sentences of "What it is" and "Rooms and settings" and of the promises 1 to 4. */
final class RoomSentences extends Sentences {
    @Says("What it is | An object is used for at most 512 calls after it has been made")
    static void theLastCallsAreAnswered() {
        TeamRooms x = new TeamRooms();
        for (int call = 1; call <= 500; call++) {
            due(x.set(call % 5, call % 10), call <= 5 ? new int[] {2, 10, 5, 15, 20}[call % 5] : (call - 5) % 10);
        }
        due(x.sellVoucher(500), 0);
        due(x.addRoom(120, 60, 200, 8), 0);
        due(x.book(0, 720, 8, 0), 0);
        for (int left = 4; left >= 0; left--) {
            due(x.undo(), left);
        }
        due(x.undo(), ILLEGAL);
        due(x.count(1), 0);
        due(x.count(6), 5);
        // The 512th call.
        due(x.count(10), 4);
    }

    @Says("Rooms and settings | There are at most 4 rooms, numbered from 0 in the order in which they were added.")
    static void atMostFourRooms() {
        TeamRooms x = new TeamRooms();
        for (int room = 0; room < 4; room++) {
            due(x.addRoom(23 - room, 0, 1, 2), room);
        }
        due(x.addRoom(24, 0, 1, 2), FULL);
        for (int room = 0; room < 4; room++) {
            due(x.room(room, 0), 23 - room);
        }
        due(x.room(4, 0), INVALID);
        due(x.count(0), 4);
        x.undo();
        due(x.room(3, 0), INVALID);
        due(x.addRoom(25, 0, 1, 2), 3);
        due(x.room(3, 0), 25);
        due(x.addRoom(26, 0, 1, 2), FULL);
    }

    @Says("Rooms and settings | A room has a length of 20 to 120 minutes, a reset of 0 to 60 minutes, "
        + "a price of 1 to 200 for each player, and room for 2 to 8 players.")
    static void theSmallestAndTheGreatestRoom() {
        TeamRooms x = new TeamRooms();
        x.addRoom(20, 0, 1, 2);
        x.addRoom(120, 60, 200, 8);
        int[] smallest = {20, 0, 1, 2};
        int[] greatest = {120, 60, 200, 8};
        for (int what = 0; what < 4; what++) {
            due(x.room(0, what), smallest[what]);
            due(x.room(1, what), greatest[what]);
        }
        due(x.book(0, 0, 2, -1), 0);
        due(x.book(1, 0, 8, -1), 1);
        due(x.book(0, 20, 2, -1), 2);
        due(x.book(1, 180, 8, -1), 3);
        due(x.booking(0, 4), 2);
        due(x.booking(1, 4), 1600);
        due(x.play(0, 20, 0, 0), 20);
        due(x.play(1, 120, 0, 0), 120);
        due(x.room(0, 4), 20);
        due(x.room(1, 4), 180);
    }

    private static void setting(int what, int most, int first) {
        TeamRooms x = new TeamRooms();
        due(x.count(6 + what), first);
        due(x.set(what, -1), INVALID);
        due(x.set(what, most + 1), INVALID);
        due(x.count(6 + what), first);
        due(x.set(what, 0), first);
        due(x.count(6 + what), 0);
        due(x.set(what, most), 0);
        due(x.count(6 + what), most);
        int[] firsts = {2, 10, 5, 15, 20};
        for (int other = 0; other < 5; other++) {
            due(x.count(6 + other), other == what ? most : firsts[other]);
        }
    }

    @Says("Rooms and settings | The settings are: 0 the minutes that a hint costs, 0 to 10 (at first 2)")
    static void costOfHints() {
        setting(0, 10, 2);
        TeamRooms x = tight(3);
        x.set(1, 30);
        due(x.play(0, 1, 3, 0), 7);
        x.set(0, 0);
        due(x.play(1, 1, 3, 0), 1);
        x.set(0, 10);
        due(x.play(2, 1, 3, 0), 31);
    }

    @Says("Rooms and settings | 1 the grace, 0 to 30 minutes (at first 10)")
    static void grace() {
        setting(1, 30, 10);
        TeamRooms x = tight(3);
        due(x.play(0, 20, 20, 0), 30);
        x.set(1, 0);
        due(x.play(1, 20, 20, 0), 20);
        x.set(1, 30);
        due(x.play(2, 20, 20, 0), 50);
    }

    @Says("Rooms and settings | 2 the minutes for each unit of wreckage, 0 to 20 (at first 5)")
    static void costOfWreckage() {
        setting(2, 20, 5);
        TeamRooms x = booked(0, 200, 400);
        x.play(0, 30, 0, 2);
        due(x.room(0, 4), 50);
        x.set(2, 0);
        x.play(1, 30, 0, 2);
        due(x.room(0, 4), 240);
        x.set(2, 20);
        x.play(2, 30, 0, 2);
        due(x.room(0, 4), 480);
    }

    @Says("Rooms and settings | 3 the patience, 0 to 60 minutes (at first 15)")
    static void patience() {
        setting(3, 60, 15);
        due(delayed(15, 2, 10).forecast(1, 2), 0);
        due(delayed(16, 2, 10).forecast(1, 2), 4);
        TeamRooms none = delayed(1, 2, 10);
        none.set(3, 0);
        due(none.forecast(1, 2), 4);
        TeamRooms much = delayed(60, 2, 10);
        much.set(3, 60);
        due(much.forecast(1, 2), 0);
        much = delayed(61, 2, 10);
        much.set(3, 60);
        due(much.forecast(1, 2), 4);
    }

    @Says("Rooms and settings | 4 the percentage for each 10 minutes of delay, 0 to 50 (at first 20).")
    static void percentage() {
        setting(4, 50, 20);
        TeamRooms x = delayed(16, 2, 10);
        due(x.forecast(1, 2), 4);
        x.set(4, 0);
        due(x.forecast(1, 2), 0);
        x.set(4, 50);
        due(x.forecast(1, 2), 10);
    }

    @Says("Promise 1 | `TeamRooms()`: Creates a venue without rooms, with an empty text.")
    static void aNewVenueIsEmpty() {
        TeamRooms other = mixed();
        TeamRooms x = new TeamRooms();
        holds(other.count(0) == 2);
        int[] counts = {0, 0, 0, 0, 0, 0, 2, 10, 5, 15, 20, 0, 0, 0, 0};
        for (int what = 0; what < counts.length; what++) {
            due(x.count(what), counts[what]);
        }
        for (int what = 0; what <= 6; what++) {
            due(x.money(what), 0);
        }
        due(x.room(0, 0), INVALID);
        due(x.booking(0, 0), INVALID);
        due(x.voucher(0, 0), INVALID);
        due(x.setPrice(0, 1), INVALID);
        due(x.book(0, 0, 2, -1), INVALID);
        due(x.freeTime(0, 0), INVALID);
        due(x.mergeable(0, 0), INVALID);
        due(x.slack(0), INVALID);
        due(x.busiest(0), NONE);
        due(x.undo(), ILLEGAL);
        due(x.restore(0), ILLEGAL);
        due(x.restore(1), ILLEGAL);
        due(x.clearText(), 0);
        due(x.run(), 0);
    }

    @Says("Promise 2 | `int addRoom(int length, int reset, int price, int players)`: Adds a room.")
    static void addsARoomWithoutPlays() {
        TeamRooms x = mixed();
        due(x.addRoom(60, 15, 25, 6), 2);
        int[] properties = {60, 15, 25, 6, 0, 0, 0, 0, 0, 0, 0, NONE};
        for (int what = 0; what < properties.length; what++) {
            due(x.room(2, what), properties[what]);
        }
        due(x.room(0, 0), 30);
        due(x.room(1, 0), 20);
        due(x.count(0), 3);
        due(x.freeTime(2, 0), 0);
    }

    @Says("Promise 2 | This is an action.")
    static void addRoomIsAnAction() {
        isAction(TeamRooms::new, x -> x.addRoom(20, 0, 1, 2));
        isAction(Sentences::mixed, x -> x.addRoom(20, 0, 1, 2));
        isNoAction(Sentences::mixed, x -> x.addRoom(19, 0, 1, 2));
    }

    @Says("Promise 2 | `length`: 20 to 120")
    static void lengths() {
        takes(20, 120, length -> new TeamRooms().addRoom(length, 30, 100, 4));
    }

    @Says("Promise 2 | `reset`: 0 to 60")
    static void resets() {
        takes(0, 60, reset -> new TeamRooms().addRoom(60, reset, 100, 4));
    }

    @Says("Promise 2 | `price`: 1 to 200")
    static void prices() {
        takes(1, 200, price -> new TeamRooms().addRoom(60, 30, price, 4));
        due(new TeamRooms().addRoom(60, 30, 0, 4), INVALID);
    }

    @Says("Promise 2 | `players`: 2 to 8, the most players")
    static void mostPlayers() {
        takes(2, 8, players -> new TeamRooms().addRoom(60, 30, 100, players));
        TeamRooms x = new TeamRooms();
        x.addRoom(60, 0, 1, 2);
        x.addRoom(60, 0, 1, 8);
        due(x.book(0, 0, 3, -1), INVALID);
        due(x.book(0, 0, 2, -1), 0);
        due(x.book(1, 0, 9, -1), INVALID);
        due(x.book(1, 0, 8, -1), 1);
    }

    @Says("Promise 2 | Returns its number")
    static void numbersOfRooms() {
        TeamRooms x = new TeamRooms();
        due(x.addRoom(20, 0, 1, 2), 0);
        due(x.addRoom(20, 0, 1, 2), 1);
        due(x.addRoom(20, 0, 1, 1), INVALID);
        due(x.addRoom(20, 0, 1, 2), 2);
        due(x.undo(), 2);
        due(x.addRoom(20, 0, 1, 2), 2);
        due(x.addRoom(20, 0, 1, 2), 3);
    }

    private static TeamRooms fourRooms() {
        TeamRooms x = new TeamRooms();
        for (int room = 0; room < 4; room++) {
            x.addRoom(30, 10, 10, 6);
        }
        return x;
    }

    @Says("Promise 2 | INVALID_ARGUMENT if an argument is out of range")
    static void addRoomOutOfRange() {
        refused(INVALID, TeamRooms::new, x -> x.addRoom(MIN, MAX, MIN, MAX));
        refused(INVALID, TeamRooms::new, x -> x.addRoom(19, -1, 0, 1));
        refused(INVALID, Sentences::mixed, x -> x.addRoom(121, 61, 201, 9));
        refused(INVALID, Sentences::mixed, x -> x.addRoom(20, 0, 1, 9));
        // One that is wrong comes ahead of four that are there.
        refused(INVALID, RoomSentences::fourRooms, x -> x.addRoom(121, 0, 1, 2));
        refused(INVALID, RoomSentences::fourRooms, x -> x.addRoom(20, 0, 1, 1));
    }

    @Says("Promise 2 | CAPACITY_EXCEEDED if there are 4.")
    static void addRoomWhereThereAreFour() {
        refused(FULL, RoomSentences::fourRooms, x -> x.addRoom(20, 0, 1, 2));
        refused(FULL, RoomSentences::fourRooms, x -> x.addRoom(120, 60, 200, 8));
        TeamRooms x = fourRooms();
        x.undo();
        due(x.addRoom(20, 0, 1, 2), 3);
        due(x.addRoom(20, 0, 1, 2), FULL);
    }

    @Says("Promise 3 | `int setPrice(int room, int price)`: Sets the price of a room")
    static void setsThePriceOfThisRoomAlone() {
        TeamRooms x = fourRooms();
        x.setPrice(0, 1);
        x.setPrice(3, 200);
        int[] prices = {1, 10, 10, 200};
        for (int room = 0; room < 4; room++) {
            due(x.room(room, 2), prices[room]);
        }
        x.book(0, 0, 2, -1);
        x.book(3, 0, 6, -1);
        due(x.booking(0, 4), 2);
        due(x.booking(1, 4), 1200);
    }

    @Says("Promise 3 | bookings that have been made keep their charges.")
    static void bookingsKeepTheirCharges() {
        TeamRooms x = booked(0, 40);
        due(x.setPrice(0, 200), 10);
        due(x.booking(0, 4), 20);
        due(x.booking(0, 5), 20);
        due(x.money(0), 40);
        due(x.money(2), 40);
        due(x.merge(0, 1), 4);
        due(x.booking(1, 4), 40);
        due(x.cancel(1), 20);
        TeamRooms y = delayed(16, 2, 10);
        y.setPrice(0, 1);
        due(y.forecast(1, 2), 4);
        due(y.play(1, 20, 0, 0), 20);
        due(y.booking(1, 7), 4);
    }

    @Says("Promise 3 | This is an action.")
    static void setPriceIsAnAction() {
        isAction(Sentences::booked, x -> x.setPrice(0, 200));
        isAction(Sentences::mixed, x -> x.setPrice(1, 1));
        // Also if nothing changes by it.
        isAction(Sentences::booked, x -> x.setPrice(0, 10));
        isNoAction(Sentences::mixed, x -> x.setPrice(0, 0));
    }

    @Says("Promise 3 | `room`: a room")
    static void setPriceOfWhichRoom() {
        takes(0, 0, room -> booked().setPrice(room, 5));
        takes(0, 3, room -> fourRooms().setPrice(room, 5));
        due(new TeamRooms().setPrice(0, 5), INVALID);
    }

    @Says("Promise 3 | `price`: 1 to 200")
    static void setPriceToWhich() {
        takes(1, 200, price -> booked().setPrice(0, price));
    }

    @Says("Promise 3 | Returns the previous price")
    static void previousPrices() {
        TeamRooms x = booked();
        due(x.setPrice(0, 1), 10);
        due(x.setPrice(0, 200), 1);
        due(x.setPrice(0, 200), 200);
        due(x.setPrice(0, 201), INVALID);
        due(x.setPrice(0, 10), 200);
        x.undo();
        due(x.setPrice(0, 11), 200);
    }

    @Says("Promise 3 | INVALID_ARGUMENT if an argument is out of range.")
    static void setPriceOutOfRange() {
        refused(INVALID, TeamRooms::new, x -> x.setPrice(0, 1));
        refused(INVALID, Sentences::mixed, x -> x.setPrice(2, 1));
        refused(INVALID, Sentences::mixed, x -> x.setPrice(-1, 1));
        refused(INVALID, Sentences::mixed, x -> x.setPrice(0, 0));
        refused(INVALID, Sentences::mixed, x -> x.setPrice(0, 201));
        refused(INVALID, Sentences::mixed, x -> x.setPrice(MAX, MIN));
    }

    @Says("Promise 4 | `int set(int what, int value)`: Changes a setting.")
    static void changesOneSetting() {
        TeamRooms x = new TeamRooms();
        int[] values = {2, 10, 5, 15, 20};
        for (int what = 0; what < 5; what++) {
            x.set(what, what + 3);
            values[what] = what + 3;
            for (int other = 0; other < 5; other++) {
                due(x.count(6 + other), values[other]);
            }
        }
    }

    @Says("Promise 4 | This is an action.")
    static void setIsAnAction() {
        for (int what = 0; what < 5; what++) {
            int setting = what;
            isAction(Sentences::booked, x -> x.set(setting, 3));
            isAction(Sentences::mixed, x -> x.set(setting, 0));
            isNoAction(Sentences::mixed, x -> x.set(setting, -1));
        }
        // Also if nothing changes by it.
        isAction(TeamRooms::new, x -> x.set(0, 2));
    }

    @Says("Promise 4 | `what`: 0 to 4")
    static void setWhich() {
        takes(0, 4, what -> new TeamRooms().set(what, 1));
    }

    @Says("Promise 4 | `value`: in its range")
    static void setToWhich() {
        int[] most = {10, 30, 20, 60, 50};
        for (int what = 0; what < 5; what++) {
            int setting = what;
            takes(0, most[what], value -> new TeamRooms().set(setting, value));
        }
    }

    @Says("Promise 4 | Returns the previous value")
    static void previousValues() {
        int[] first = {2, 10, 5, 15, 20};
        for (int what = 0; what < 5; what++) {
            TeamRooms x = new TeamRooms();
            due(x.set(what, 0), first[what]);
            due(x.set(what, 10), 0);
            due(x.set(what, 61), INVALID);
            due(x.set(what, 10), 10);
            due(x.set(what, 1), 10);
            x.undo();
            due(x.set(what, 2), 10);
        }
    }

    @Says("Promise 4 | INVALID_ARGUMENT if an argument is out of range.")
    static void setOutOfRange() {
        refused(INVALID, TeamRooms::new, x -> x.set(-1, 0));
        refused(INVALID, TeamRooms::new, x -> x.set(5, 0));
        refused(INVALID, Sentences::mixed, x -> x.set(0, 11));
        refused(INVALID, Sentences::mixed, x -> x.set(1, 31));
        refused(INVALID, Sentences::mixed, x -> x.set(2, 21));
        refused(INVALID, Sentences::mixed, x -> x.set(3, 61));
        refused(INVALID, Sentences::mixed, x -> x.set(4, 51));
        refused(INVALID, Sentences::mixed, x -> x.set(4, -1));
        refused(INVALID, Sentences::mixed, x -> x.set(MIN, MIN));
        refused(INVALID, Sentences::mixed, x -> x.set(MAX, MAX));
    }
}
