import java.util.List;
import java.util.function.ToIntFunction;

/** The sentences of "Errors". */
final class ErrorSentences extends Sentences {
    /** Four rooms, sixteen bookings (0 played, 1 cancelled, 2 merged, the others booked), eight vouchers. */
    private static TeamRooms full() {
        TeamRooms x = tight(16);
        for (int room = 1; room < 4; room++) {
            x.addRoom(30, 0, 5, 4);
        }
        for (int voucher = 0; voucher < 8; voucher++) {
            x.sellVoucher(9);
        }
        x.play(0, 1, 1, 1);
        x.cancel(1);
        x.merge(2, 3);
        x.append('?');
        return x;
    }

    private static final List<ToIntFunction<TeamRooms>> INVALID_CALLS = List.of(
        x -> x.addRoom(19, 0, 1, 2), x -> x.setPrice(4, 1), x -> x.set(5, 0), x -> x.sellVoucher(0),
        x -> x.book(4, 0, 2, -1), x -> x.book(0, 0, 2, 8), x -> x.move(16, 0), x -> x.cancel(16), x -> x.merge(3, 3),
        x -> x.merge(0, 16), x -> x.play(0, 21, 0, 0), x -> x.take(2), x -> x.restore(2), x -> x.append(256));
    private static final List<ToIntFunction<TeamRooms>> ILLEGAL_CALLS = List.of(
        x -> x.book(0, 60, 2, -1), x -> x.move(0, 700), x -> x.move(3, 0), x -> x.cancel(1), x -> x.merge(2, 3),
        x -> x.play(4, 0, 0, 0), x -> x.restore(0), x -> x.restore(1));
    private static final List<ToIntFunction<TeamRooms>> FULL_CALLS = List.of(
        x -> x.addRoom(20, 0, 1, 2), x -> x.sellVoucher(1), x -> x.book(0, 700, 2, -1), x -> x.book(1, 0, 2, 0));

    @Says("Errors | A call that returns an error code changes nothing.")
    static void refusedCallsChangeNothing() {
        // All of them on one object, beside an object on which none of them is made.
        TeamRooms x = full();
        for (List<ToIntFunction<TeamRooms>> calls : List.of(INVALID_CALLS, ILLEGAL_CALLS, FULL_CALLS)) {
            for (ToIntFunction<TeamRooms> call : calls) {
                holds(call.applyAsInt(x) < 0);
            }
        }
        due(x.run(), -1000);
        TeamRooms y = full();
        holds(pictureOfVenue(x).equals(pictureOfVenue(y)));
        for (int left = 4; left >= 0; left--) {
            due(x.undo(), left);
            due(y.undo(), left);
            due(x.money(0), y.money(0));
            due(x.count(2), y.count(2));
            due(x.room(0, 5), y.room(0, 5));
            due(x.booking(3, 2), y.booking(3, 2));
        }
        due(x.count(5), 1);
    }

    @Says("Errors | If several error conditions apply, the method returns the one that its description lists first")
    static void theFirstErrorIsReturned() {
        TeamRooms x = full();
        // Out of range ahead of all others.
        due(x.addRoom(20, 61, 1, 2), INVALID);
        due(x.sellVoucher(501), INVALID);
        due(x.book(0, 0, 9, -1), INVALID);
        due(x.book(0, 60, 2, 8), INVALID);
        due(x.move(0, 721), INVALID);
        due(x.move(1, -1), INVALID);
        due(x.merge(1, 1), INVALID);
        due(x.merge(1, 16), INVALID);
        due(x.play(0, 0, 21, 0), INVALID);
        due(x.play(4, 0, 0, 10), INVALID);
        due(x.restore(2), INVALID);
        due(x.append(0), INVALID);
        due(x.hintsFor(0, 21), INVALID);
        due(x.hintsFor(1, 0), INVALID);
        // A state that does not allow it ahead of what is full.
        due(x.book(0, 0, 2, -1), ILLEGAL);
        due(x.book(0, 60, 8, -1), ILLEGAL);
        due(x.book(0, 700, 8, -1), FULL);
        TeamRooms y = tight(0);
        y.addRoom(20, 0, 1, 4);
        y.book(0, 0, 8, -1);
        y.book(0, 20, 8, -1);
        y.book(1, 0, 4, -1);
        due(y.merge(0, 2), ILLEGAL);
        due(y.merge(2, 0), ILLEGAL);
        due(y.merge(0, 1), FULL);
        y.play(0, 1, 0, 0);
        due(y.merge(0, 1), ILLEGAL);
        due(y.merge(1, 0), ILLEGAL);
    }

    @Says("Errors | NONE is no error, and it is returned only if no error condition applies.")
    static void noneIsNoError() {
        TeamRooms x = full();
        due(x.forecast(0, 2), NONE);
        due(x.forecast(0, 3), INVALID);
        due(x.forecast(1, -1), INVALID);
        due(x.freeTime(4, 720), INVALID);
        due(x.freeTime(0, 721), INVALID);
        due(x.mergeable(1, 2), NONE);
        due(x.mergeable(1, 3), INVALID);
        due(x.mergeable(4, 2), INVALID);
        due(x.slack(1), NONE);
        due(x.slack(4), INVALID);
        due(x.busiest(4), NONE);
        due(x.busiest(-1), INVALID);
        due(x.room(1, 11), NONE);
        due(x.room(1, 12), INVALID);
        due(x.room(4, 11), INVALID);
        due(x.booking(1, 8), NONE);
        due(x.booking(1, 11), INVALID);
        due(x.booking(16, 8), INVALID);
    }

    @Says("Errors | The constants: `INVALID_ARGUMENT = -1`: An argument is out of range, "
        + "or names something that does not exist.")
    static void invalidArgument() {
        due(TeamRooms.INVALID_ARGUMENT, -1);
        for (ToIntFunction<TeamRooms> call : INVALID_CALLS) {
            due(call.applyAsInt(full()), -1);
        }
    }

    @Says("Errors | `ILLEGAL_STATE = -2`: The call is not possible in the present state.")
    static void illegalState() {
        due(TeamRooms.ILLEGAL_STATE, -2);
        for (ToIntFunction<TeamRooms> call : ILLEGAL_CALLS) {
            due(call.applyAsInt(full()), -2);
        }
        due(new TeamRooms().undo(), -2);
        due(full().hintsFor(0, 1), -2);
    }

    @Says("Errors | `CAPACITY_EXCEEDED = -3`: There is no room.")
    static void capacityExceeded() {
        due(TeamRooms.CAPACITY_EXCEEDED, -3);
        for (ToIntFunction<TeamRooms> call : FULL_CALLS) {
            due(call.applyAsInt(full()), -3);
        }
        TeamRooms x = booked();
        x.book(0, 0, 6, -1);
        x.book(0, 40, 2, -1);
        due(x.merge(0, 1), -3);
        TeamRooms y = new TeamRooms();
        write(y, filled("", 140));
        due(y.append(' '), -3);
    }

    @Says("Errors | `NONE = -9`: There is no such value.")
    static void none() {
        due(TeamRooms.NONE, -9);
        TeamRooms x = booked(0);
        due(x.booking(0, 8), -9);
        due(x.booking(0, 9), -9);
        due(x.mergeable(0, 0), -9);
        due(x.busiest(1), -9);
        x.cancel(0);
        due(x.room(0, 11), -9);
        due(x.forecast(0, 0), -9);
        due(x.slack(0), -9);
        x.book(0, 720, 2, -1);
        due(x.freeTime(0, 681), -9);
    }
}
