/** The sentences of "Snapshots" and "Undo" and of the promises 11 to 13. */
final class HistorySentences extends Sentences {
    private static TeamRooms bothTaken() {
        TeamRooms x = booked(0, 40);
        x.take(0);
        x.cancel(0);
        x.take(1);
        return x;
    }

    @Says("Snapshots | There are two slots for snapshots, empty at first.")
    static void twoSlots() {
        TeamRooms x = booked(0);
        due(x.count(3), 0);
        due(x.restore(0), ILLEGAL);
        due(x.restore(1), ILLEGAL);
        due(x.take(1), 20);
        due(x.count(3), 1);
        due(x.restore(0), ILLEGAL);
        due(x.restore(1), 20);
        x.sellVoucher(3);
        due(x.take(0), 23);
        due(x.count(3), 2);
        due(x.take(2), INVALID);
        due(x.restore(1), 20);
        due(x.restore(0), 23);
    }

    @Says("Snapshots | A snapshot keeps rooms, settings, bookings, vouchers, the till and what was played.")
    static void whatASnapshotKeeps() {
        TeamRooms x = mixed();
        x.take(1);
        x.addRoom(60, 0, 9, 8);
        x.setPrice(0, 99);
        for (int what = 0; what < 5; what++) {
            x.set(what, 7);
        }
        x.sellVoucher(500);
        x.move(4, 700);
        x.play(3, 1, 20, 9);
        x.cancel(4);
        x.book(2, 0, 8, 1);
        x.book(1, 0, 8, -1);
        x.play(6, 20, 20, 9);
        x.restore(1);
        TeamRooms y = mixed();
        holds(pictureOfVenue(x).equals(pictureOfVenue(y)));
        for (int what = 0; what <= 14; what++) {
            // The snapshots and the history are no part of it.
            due(x.count(what), what == 3 ? 2 : what == 4 ? 5 : y.count(what));
        }
    }

    @Says("Snapshots | To restore it makes all this as it was")
    static void restoredAsItWas() {
        TeamRooms x = new TeamRooms();
        x.take(0);
        x.addRoom(30, 10, 10, 6);
        x.sellVoucher(30);
        x.take(1);
        x.book(0, 0, 3, 0);
        x.play(0, 0, 0, 9);
        // Back to an empty venue, and on to one that is later than it.
        due(x.restore(0), 0);
        due(x.count(0) + x.count(1) + x.count(2) + x.money(6), 0);
        due(x.room(0, 0), INVALID);
        due(x.restore(1), 30);
        due(x.count(0), 1);
        due(x.room(0, 4), 0);
        due(x.room(0, 5), 0);
        due(x.voucher(0, 1), 30);
        due(x.voucher(0, 2), 0);
        due(x.count(1), 0);
        // What is made anew has nothing of what was there.
        due(x.book(0, 5, 2, -1), 0);
        int[] anew = {0, 5, 2, 0, 20, 20, 0, 0, NONE, NONE, 0};
        for (int what = 0; what <= 10; what++) {
            due(x.booking(0, what), anew[what]);
        }
        // A snapshot of a full venue, restored in an empty one.
        TeamRooms full = tight(16);
        full.take(0);
        for (int left = 4; left >= 0; left--) {
            full.undo();
        }
        due(full.count(1), 12);
        due(full.restore(0), ILLEGAL);
    }

    @Says("Snapshots | nothing else changes.")
    static void restoringChangesNothingElse() {
        TeamRooms x = bothTaken();
        x.append('g');
        x.append('i');
        due(x.count(4), 5);
        due(x.restore(0), 40);
        due(x.count(3), 2);
        due(x.count(4), 5);
        due(x.count(5), 2);
        x.append('f');
        x.append('t');
        due(x.run(), -1004);
        due(x.undo(), 4);
        due(x.booking(0, 3), 2);
        due(x.restore(1), 30);
        due(x.booking(0, 3), 2);
        due(x.restore(0), 40);
        due(x.booking(0, 3), 0);
    }

    @Says("Undo | A history of at most 5 states is kept")
    static void atMostFiveStates() {
        TeamRooms x = new TeamRooms();
        due(x.count(4), 0);
        due(x.undo(), ILLEGAL);
        for (int action = 1; action <= 12; action++) {
            x.set(0, action % 10);
            due(x.count(4), Math.min(5, action));
        }
        for (int left = 4; left >= 0; left--) {
            due(x.undo(), left);
            due(x.count(4), left);
            due(x.count(6), (left + 7) % 10);
        }
        due(x.undo(), ILLEGAL);
        due(x.count(6), 7);
        // It is the same with fewer ones, and again behind that.
        for (int round = 0; round < 3; round++) {
            for (int action = 1; action <= 7; action++) {
                x.set(1, action);
            }
            due(x.undo(), 4);
            due(x.undo(), 3);
            due(x.count(7), 5);
            x.set(1, 30);
            due(x.count(4), 4);
            x.set(1, 29);
            due(x.count(4), 5);
            x.set(1, 28);
            due(x.count(4), 5);
            int[] back = {29, 30, 5, 4, 3};
            for (int at = 0; at < 5; at++) {
                due(x.undo(), 4 - at);
                due(x.count(7), back[at]);
            }
            due(x.undo(), ILLEGAL);
        }
    }

    @Says("Undo | a state is everything but the text and the history (the snapshots belong to it).")
    static void whatAStateIs() {
        TeamRooms x = booked(0);
        x.append('a');
        x.take(0);
        x.append('b');
        due(x.undo(), 2);
        due(x.count(3), 0);
        due(x.restore(0), ILLEGAL);
        due(x.count(5), 2);
        due(x.run(), -1000);
        // A snapshot in place of one that is there: undo() brings back the earlier one.
        x.take(1);
        x.sellVoucher(5);
        due(x.take(1), 25);
        due(x.undo(), 4);
        due(x.restore(1), 20);
        due(x.undo(), 4);
        due(x.undo(), 3);
        due(x.undo(), 2);
        due(x.count(3), 0);
        x.clearText();
        due(x.undo(), 1);
        due(x.count(5), 0);
        // A text that was run does not come back.
        x.append(' ');
        due(x.run(), 0);
        due(x.undo(), 1);
        due(x.count(5), 0);
    }

    @Says("Undo | Every successful call of a method that is called an action records the state before it "
        + "(also if nothing changes by it)")
    static void recordedAlsoIfNothingChanges() {
        TeamRooms x = booked(0);
        x.undo();
        x.undo();
        due(x.count(4), 0);
        x.addRoom(30, 10, 10, 6);
        due(x.setPrice(0, 10), 10);
        due(x.count(4), 2);
        due(x.set(3, 15), 15);
        due(x.count(4), 3);
        due(x.run(), 0);
        due(x.count(4), 4);
        x.undo();
        x.undo();
        x.undo();
        due(x.book(0, 9, 2, -1), 0);
        due(x.move(0, 9), 9);
        due(x.count(4), 3);
        due(x.take(0), 20);
        due(x.take(0), 20);
        due(x.count(4), 5);
        x.undo();
        due(x.restore(0), 20);
        due(x.count(4), 5);
        x.undo();
        due(x.count(3), 1);
        x.undo();
        due(x.count(3), 0);
        x.undo();
        due(x.booking(0, 1), 9);
        x.undo();
        due(x.count(1), 0);
        // Looking, writing and refused calls record nothing.
        due(x.count(4), 1);
        x.append('?');
        x.run();
        x.clearText();
        x.freeTime(0, 0);
        x.slack(0);
        x.busiest(0);
        x.addRoom(0, 0, 0, 0);
        x.cancel(0);
        x.restore(1);
        due(x.count(4), 1);
    }

    @Says("Undo | when a sixth one is recorded, the oldest one is dropped.")
    static void theSixthDropsTheOldest() {
        TeamRooms x = new TeamRooms();
        for (int value = 1; value <= 5; value++) {
            x.sellVoucher(value);
        }
        due(x.count(4), 5);
        for (int left = 4; left >= 0; left--) {
            x.undo();
        }
        due(x.count(2), 0);
        for (int value = 1; value <= 6; value++) {
            x.sellVoucher(value);
        }
        due(x.count(4), 5);
        for (int left = 4; left >= 0; left--) {
            due(x.undo(), left);
            due(x.count(2), left + 1);
        }
        due(x.undo(), ILLEGAL);
        due(x.count(2), 1);
        // A refused call drops none.
        for (int value = 1; value <= 4; value++) {
            x.sellVoucher(value);
        }
        x.sellVoucher(5);
        x.sellVoucher(501);
        x.undo();
        x.undo();
        x.undo();
        x.undo();
        due(x.undo(), 0);
        due(x.count(2), 1);
    }

    @Says("Undo | undo() removes the latest state from the history and restores it.")
    static void theLatestIsRestored() {
        TeamRooms x = booked(0, 40);
        x.undo();
        due(x.count(1), 1);
        due(x.count(4), 2);
        x.undo();
        due(x.count(1), 0);
        due(x.count(4), 1);
        x.undo();
        due(x.count(0), 0);
        due(x.count(4), 0);
        due(x.undo(), ILLEGAL);
        // Undone actions are no more in the history: undo() twice goes back twice.
        x.addRoom(30, 10, 10, 6);
        x.setPrice(0, 20);
        x.setPrice(0, 30);
        x.undo();
        x.setPrice(0, 40);
        x.undo();
        due(x.room(0, 2), 20);
        x.undo();
        due(x.room(0, 2), 10);
    }

    @Says("Promise 11 | `int take(int slot)`: Takes a snapshot, in place of one that is there.")
    static void takenInPlace() {
        TeamRooms x = booked(0);
        x.take(0);
        x.cancel(0);
        due(x.take(0), 10);
        due(x.count(3), 1);
        x.sellVoucher(5);
        due(x.restore(0), 10);
        due(x.booking(0, 3), 2);
        // The snapshot is apart from the venue: what comes later does not change it.
        x.addRoom(20, 0, 1, 2);
        x.set(0, 9);
        x.book(0, 0, 6, -1);
        due(x.restore(0), 10);
        due(x.count(0), 1);
        due(x.count(1), 1);
        due(x.count(6), 2);
    }

    @Says("Promise 11 | This is an action.")
    static void takeIsAnAction() {
        isAction(TeamRooms::new, x -> x.take(0));
        isAction(Sentences::mixed, x -> x.take(1));
        isAction(Sentences::mixed, x -> x.take(0));
        isNoAction(Sentences::mixed, x -> x.take(2));
    }

    @Says("Promise 11 | `slot`: 0 or 1")
    static void takeWhich() {
        takes(0, 1, slot -> new TeamRooms().take(slot));
    }

    @Says("Promise 11 | Returns the till")
    static void takeReturnsTheTill() {
        due(new TeamRooms().take(0), 0);
        TeamRooms x = booked(0);
        x.sellVoucher(500);
        due(x.take(0), 520);
        x.cancel(0);
        due(x.take(1), 510);
        x.book(0, 0, 2, 0);
        due(x.take(1), 510);
        due(x.take(2), INVALID);
    }

    @Says("Promise 11 | INVALID_ARGUMENT if slot is out of range.")
    static void takeOutOfRange() {
        refused(INVALID, TeamRooms::new, x -> x.take(-1));
        refused(INVALID, TeamRooms::new, x -> x.take(2));
        refused(INVALID, HistorySentences::bothTaken, x -> x.take(2));
        refused(INVALID, Sentences::mixed, x -> x.take(MIN));
        refused(INVALID, Sentences::mixed, x -> x.take(MAX));
    }

    @Says("Promise 12 | `int restore(int slot)`: Restores a snapshot, which stays.")
    static void restoredAndStays() {
        TeamRooms x = bothTaken();
        for (int round = 0; round < 3; round++) {
            due(x.restore(0), 40);
            due(x.booking(0, 3), 0);
            due(x.play(0, 1, 1, 1), 3);
            due(x.restore(1), 30);
            due(x.booking(0, 3), 2);
            x.sellVoucher(5);
            due(x.count(3), 2);
        }
        due(x.restore(0), 40);
        due(x.restore(0), 40);
    }

    @Says("Promise 12 | This is an action.")
    static void restoreIsAnAction() {
        isAction(HistorySentences::bothTaken, x -> x.restore(0));
        // Also if nothing changes by it.
        isAction(HistorySentences::bothTaken, x -> x.restore(1));
        isAction(Sentences::mixed, x -> x.restore(0));
        isNoAction(Sentences::mixed, x -> x.restore(1));
    }

    @Says("Promise 12 | `slot`: 0 or 1")
    static void restoreWhich() {
        takes(0, 1, slot -> bothTaken().restore(slot));
    }

    @Says("Promise 12 | Returns the till then")
    static void restoreReturnsTheTill() {
        TeamRooms x = new TeamRooms();
        x.take(0);
        x.sellVoucher(500);
        x.take(1);
        x.sellVoucher(1);
        due(x.restore(0), 0);
        due(x.money(0), 0);
        due(x.restore(1), 500);
        due(x.money(0), 500);
    }

    @Says("Promise 12 | INVALID_ARGUMENT if slot is out of range")
    static void restoreOutOfRange() {
        refused(INVALID, TeamRooms::new, x -> x.restore(-1));
        refused(INVALID, TeamRooms::new, x -> x.restore(2));
        refused(INVALID, HistorySentences::bothTaken, x -> x.restore(2));
        refused(INVALID, HistorySentences::bothTaken, x -> x.restore(-1));
        refused(INVALID, Sentences::mixed, x -> x.restore(MIN));
        refused(INVALID, Sentences::mixed, x -> x.restore(MAX));
    }

    @Says("Promise 12 | ILLEGAL_STATE if the slot is empty.")
    static void restoreAnEmptySlot() {
        refused(ILLEGAL, TeamRooms::new, x -> x.restore(0));
        refused(ILLEGAL, TeamRooms::new, x -> x.restore(1));
        refused(ILLEGAL, Sentences::mixed, x -> x.restore(1));
        TeamRooms x = bothTaken();
        x.undo();
        due(x.restore(1), ILLEGAL);
        due(x.restore(0), 40);
        x.undo();
        x.undo();
        x.undo();
        due(x.restore(0), ILLEGAL);
    }

    @Says("Promise 13 | `int undo()`: Removes the latest state from the history and restores it.")
    static void undoes() {
        TeamRooms x = mixed();
        x.take(1);
        x.addRoom(60, 0, 9, 8);
        x.undo();
        x.undo();
        TeamRooms y = mixed();
        x.set(0, 3);
        y.set(0, 3);
        holds(pictureOfVenue(x).equals(pictureOfVenue(y)));
        due(x.count(3), 1);
        due(x.count(4), 4);
        due(y.count(4), 5);
    }

    @Says("Promise 13 | Returns the number of states that are left in the history")
    static void statesLeft() {
        TeamRooms x = booked();
        due(x.undo(), 0);
        for (int action = 0; action < 9; action++) {
            x.take(action % 2);
        }
        for (int left = 4; left >= 0; left--) {
            due(x.undo(), left);
            due(x.count(4), left);
        }
    }

    @Says("Promise 13 | ILLEGAL_STATE if it is empty.")
    static void undoNothing() {
        refused(ILLEGAL, TeamRooms::new, x -> x.undo());
        refused(ILLEGAL, () -> {
            TeamRooms x = mixed();
            for (int left = 4; left >= 0; left--) {
                x.undo();
            }
            return x;
        }, x -> x.undo());
        TeamRooms x = booked();
        due(x.undo(), 0);
        due(x.undo(), ILLEGAL);
        due(x.undo(), ILLEGAL);
        due(x.addRoom(20, 0, 1, 2), 0);
        due(x.undo(), 0);
    }
}
