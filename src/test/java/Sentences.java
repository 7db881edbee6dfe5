import java.util.function.Consumer;
import java.util.function.IntUnaryOperator;
import java.util.function.Supplier;
import java.util.function.ToIntFunction;

/** What the tests of the document's sentences have in common: venues to begin with, and what is asked of them. */
class Sentences {
    static final int INVALID = TeamRooms.INVALID_ARGUMENT;
    static final int ILLEGAL = TeamRooms.ILLEGAL_STATE;
    static final int FULL = TeamRooms.CAPACITY_EXCEEDED;
    static final int NONE = TeamRooms.NONE;
    static final int MAX = Integer.MAX_VALUE;
    static final int MIN = Integer.MIN_VALUE;

    private static final Checks checks = new Checks();

    static Checks checks() {
        return checks;
    }

    static void due(int got, int want) {
        checks.due(got == want ? "" : line(), got, want);
    }

    static void holds(boolean is) {
        checks.holds(is ? "" : line(), is);
    }

    private static String line() {
        return StackWalker.getInstance().walk(frames -> frames
            .filter(frame -> !frame.getClassName().equals("Sentences")).findFirst().get().toString());
    }

    /** A venue with one room: 30 + 10 minutes, 10 euros, 6 players; and in it bookings of two at these times. */
    static TeamRooms booked(int... times) {
        TeamRooms x = new TeamRooms();
        x.addRoom(30, 10, 10, 6);
        for (int time : times) {
            x.book(0, time, 2, -1);
        }
        return x;
    }

    /** A venue with a room of 20 + 0 minutes, 10 euros, 8 players; and in it bookings of two, one behind the other. */
    static TeamRooms tight(int bookings) {
        TeamRooms x = new TeamRooms();
        x.addRoom(20, 0, 10, 8);
        for (int at = 0; at < bookings; at++) {
            x.book(0, 20 * at, 2, -1);
        }
        return x;
    }

    /** A tight venue whose booking 1, of some players and this price, has this delay (0 to 199) in the forecast. */
    static TeamRooms delayed(int delay, int players, int price) {
        TeamRooms x = new TeamRooms();
        x.addRoom(20, 0, price, 8);
        x.book(0, 0, 2, -1);
        x.book(0, 20, players, -1);
        int[] before = {x.set(0, 10), x.set(1, delay % 20), x.set(2, 20)};
        // The first play takes 20 minutes and the grace; each unit of wreckage takes 20 minutes.
        x.play(0, 20, 20, delay / 20);
        x.set(0, before[0]);
        x.set(1, before[1]);
        x.set(2, before[2]);
        due(x.forecast(1, 1), delay);
        return x;
    }

    /** A venue with some of everything: rooms, vouchers, a snapshot, a text, and a booking in each state. */
    static TeamRooms mixed() {
        TeamRooms x = booked(0, 40, 80, 120);
        x.addRoom(20, 0, 7, 8);
        x.sellVoucher(25);
        x.book(0, 160, 3, 0);
        x.play(0, 30, 8, 2);
        x.cancel(1);
        x.take(0);
        x.merge(2, 3);
        x.append('g');
        return x;
    }

    static void write(TeamRooms x, String text) {
        x.clearText();
        for (int at = 0; at < text.length(); at++) {
            due(x.append(text.charAt(at)), at + 1);
        }
    }

    static int runText(TeamRooms x, String text) {
        write(x, text);
        return x.run();
    }

    static String filled(String text, int length) {
        return text + " ".repeat(length - text.length());
    }

    /** All that can be seen without a change: at most 317 calls, so an object can be looked at once. */
    static String picture(TeamRooms x) {
        StringBuilder seen = new StringBuilder();
        for (int what = 0; what <= 14; what++) {
            seen.append("count ").append(what).append(": ").append(x.count(what)).append('\n');
        }
        return seen.append(pictureOfVenue(x)).toString();
    }

    /** The part of the picture that a snapshot keeps, but for the settings: at most 302 calls. */
    static String pictureOfVenue(TeamRooms x) {
        StringBuilder seen = new StringBuilder();
        for (int what = 0; what <= 6; what++) {
            seen.append("money ").append(what).append(": ").append(x.money(what)).append('\n');
        }
        for (int room = 0; x.room(room, 0) >= 0; room++) {
            for (int what = 0; what <= 11; what++) {
                seen.append(x.room(room, what)).append(' ');
            }
            seen.append("is room ").append(room).append('\n');
        }
        for (int booking = 0; x.booking(booking, 0) >= 0; booking++) {
            for (int what = 0; what <= 10; what++) {
                seen.append(x.booking(booking, what)).append(' ');
            }
            seen.append(x.forecast(booking, 2)).append(" is booking ").append(booking).append('\n');
        }
        for (int voucher = 0; x.voucher(voucher, 0) >= 0; voucher++) {
            for (int what = 0; what <= 2; what++) {
                seen.append(x.voucher(voucher, what)).append(' ');
            }
            seen.append("is voucher ").append(voucher).append('\n');
        }
        return seen.toString();
    }

    static void samePicture(TeamRooms x, TeamRooms y) {
        holds(picture(x).equals(picture(y)));
    }

    /** A call with this value takes the least and the greatest one, and refuses those beside them and far away. */
    static void takes(int least, int most, IntUnaryOperator call) {
        holds(call.applyAsInt(least) >= 0);
        holds(call.applyAsInt(most) >= 0);
        due(call.applyAsInt(least - 1), INVALID);
        due(call.applyAsInt(most + 1), INVALID);
        due(call.applyAsInt(MIN), INVALID);
        due(call.applyAsInt(MAX), INVALID);
    }

    /** The call is refused, and afterwards all is as in a venue in which it was never made. */
    static void refused(int error, Supplier<TeamRooms> venue, ToIntFunction<TeamRooms> call) {
        TeamRooms with = venue.get();
        due(call.applyAsInt(with), error);
        TeamRooms without = venue.get();
        samePicture(with, without);
        due(with.run(), without.run());
        due(with.undo(), without.undo());
        due(with.undo(), without.undo());
        due(with.money(0), without.money(0));
    }

    /** The call records one state, and undo() brings back all that it changed. */
    static void isAction(Supplier<TeamRooms> venue, ToIntFunction<TeamRooms> call) {
        TeamRooms x = venue.get();
        int states = x.count(4);
        holds(call.applyAsInt(x) >= 0);
        due(x.count(4), Math.min(5, states + 1));
        due(x.undo(), Math.min(4, states));
        TeamRooms y = venue.get();
        // A fifth state may have been dropped for the call.
        if (states == 5) {
            y.set(0, 9);
            y.undo();
        }
        samePicture(x, y);
    }

    /** The call records no state: undo() brings back what it would have brought back without it. */
    static void isNoAction(Supplier<TeamRooms> venue, Consumer<TeamRooms> call) {
        TeamRooms x = venue.get();
        int states = x.count(4);
        call.accept(x);
        due(x.count(4), states);
        TeamRooms y = venue.get();
        due(x.undo(), y.undo());
        holds(pictureOfVenue(x).equals(pictureOfVenue(y)));
    }
}
