import java.util.ArrayDeque;
import java.util.ArrayList;
import java.util.Deque;
import java.util.List;
import java.util.regex.Matcher;
import java.util.regex.Pattern;

/** The document once more, in the most naive way: copies of everything, and trying out instead of computing. */
final class Model {
    private static final int INVALID = -1;
    private static final int ILLEGAL = -2;
    private static final int FULL = -3;
    private static final int NONE = -9;

    private static final class Room {
        int length, reset, price, most, free, plays, solved, hints, minutes, delay, overruns;

        Room copy() {
            Room c = new Room();
            c.length = length;
            c.reset = reset;
            c.price = price;
            c.most = most;
            c.free = free;
            c.plays = plays;
            c.solved = solved;
            c.hints = hints;
            c.minutes = minutes;
            c.delay = delay;
            c.overruns = overruns;
            return c;
        }
    }

    private static final class Booking {
        int room, time, players, state, charge, cash, refunded;
        int start = NONE, minutes = NONE;
        // Each payment: the voucher, the amount.
        List<int[]> row = new ArrayList<>();

        Booking copy() {
            Booking c = new Booking();
            c.room = room;
            c.time = time;
            c.players = players;
            c.state = state;
            c.charge = charge;
            c.cash = cash;
            c.refunded = refunded;
            c.start = start;
            c.minutes = minutes;
            row.forEach(payment -> c.row.add(payment.clone()));
            return c;
        }

        int byVouchers() {
            return row.stream().mapToInt(payment -> payment[1]).sum();
        }
    }

    private static final class Venue {
        List<Room> rooms = new ArrayList<>();
        List<Booking> bookings = new ArrayList<>();
        List<int[]> vouchers = new ArrayList<>();
        int[] settings = {2, 10, 5, 15, 20};
        int till;

        Venue copy() {
            Venue c = new Venue();
            rooms.forEach(room -> c.rooms.add(room.copy()));
            bookings.forEach(booking -> c.bookings.add(booking.copy()));
            vouchers.forEach(voucher -> c.vouchers.add(voucher.clone()));
            c.settings = settings.clone();
            c.till = till;
            return c;
        }
    }

    private static final class State {
        Venue venue = new Venue();
        Venue[] slots = new Venue[2];

        State copy() {
            State c = new State();
            c.venue = venue.copy();
            for (int slot = 0; slot < 2; slot++) {
                c.slots[slot] = slots[slot] == null ? null : slots[slot].copy();
            }
            return c;
        }
    }

    private State state = new State();
    private final Deque<State> history = new ArrayDeque<>();
    private String text = "";
    private boolean running = false;

    private Venue venue() {
        return state.venue;
    }

    /** Every action calls this when it is sure to succeed, ahead of its changes. */
    private void record() {
        if (running) {
            return;
        }
        history.addLast(state.copy());
        if (history.size() > 5) {
            history.removeFirst();
        }
    }

    private boolean isRoom(int room) {
        return room >= 0 && room < venue().rooms.size();
    }

    private boolean isBooking(int booking) {
        return booking >= 0 && booking < venue().bookings.size();
    }

    private Booking booking(int booking) {
        return venue().bookings.get(booking);
    }

    private Room roomOf(Booking booking) {
        return venue().rooms.get(booking.room);
    }

    int addRoom(int length, int reset, int price, int players) {
        if (length < 20 || length > 120 || reset < 0 || reset > 60 || price < 1 || price > 200 || players < 2
                || players > 8) {
            return INVALID;
        }
        if (venue().rooms.size() == 4) {
            return FULL;
        }
        record();
        Room room = new Room();
        room.length = length;
        room.reset = reset;
        room.price = price;
        room.most = players;
        venue().rooms.add(room);
        return venue().rooms.size() - 1;
    }

    int setPrice(int room, int price) {
        if (!isRoom(room) || price < 1 || price > 200) {
            return INVALID;
        }
        record();
        int before = venue().rooms.get(room).price;
        venue().rooms.get(room).price = price;
        return before;
    }

    int set(int what, int value) {
        if (what < 0 || what > 4 || value < 0 || value > List.of(10, 30, 20, 60, 50).get(what)) {
            return INVALID;
        }
        record();
        int before = venue().settings[what];
        venue().settings[what] = value;
        return before;
    }

    int sellVoucher(int value) {
        if (value < 1 || value > 500) {
            return INVALID;
        }
        if (venue().vouchers.size() == 8) {
            return FULL;
        }
        record();
        venue().vouchers.add(new int[] {value, value});
        venue().till += value;
        return venue().vouchers.size() - 1;
    }

    private boolean possible(int room, int time, Booking but) {
        Room its = venue().rooms.get(room);
        for (Booking other : venue().bookings) {
            if (other.room != room || other == but) {
                continue;
            }
            if (other.state <= 1 && Math.abs(other.time - time) < its.length + its.reset) {
                return false;
            }
            if (other.state == 1 && other.time >= time) {
                return false;
            }
        }
        return true;
    }

    int book(int room, int time, int players, int voucher) {
        if (!isRoom(room) || time < 0 || time > 720 || players < 2 || players > venue().rooms.get(room).most
                || voucher < -1 || voucher >= venue().vouchers.size()) {
            return INVALID;
        }
        if (!possible(room, time, null)) {
            return ILLEGAL;
        }
        if (venue().bookings.size() == 16) {
            return FULL;
        }
        record();
        Booking booking = new Booking();
        booking.room = room;
        booking.time = time;
        booking.players = players;
        booking.charge = players * roomOf(booking).price;
        booking.cash = booking.charge;
        if (voucher >= 0) {
            int[] its = venue().vouchers.get(voucher);
            int part = Math.min(its[1], booking.charge);
            if (part > 0) {
                its[1] -= part;
                booking.cash -= part;
                booking.row.add(new int[] {voucher, part});
            }
        }
        venue().till += booking.cash;
        venue().bookings.add(booking);
        return venue().bookings.size() - 1;
    }

    int move(int booking, int time) {
        if (!isBooking(booking) || time < 0 || time > 720) {
            return INVALID;
        }
        Booking its = booking(booking);
        if (its.state != 0 || !possible(its.room, time, its)) {
            return ILLEGAL;
        }
        record();
        int before = its.time;
        its.time = time;
        return before;
    }

    private List<Booking> queue(int room) {
        List<Booking> queue = new ArrayList<>();
        for (Booking booking : venue().bookings) {
            if (booking.room == room && booking.state == 0) {
                queue.add(booking);
            }
        }
        queue.sort((a, b) -> a.time - b.time);
        return queue;
    }

    private int forecastStart(Booking wanted, int later) {
        Room room = roomOf(wanted);
        int free = room.free + later;
        for (Booking booking : queue(wanted.room)) {
            int start = Math.max(free, booking.time);
            if (booking == wanted) {
                return start;
            }
            free = start + room.length + room.reset;
        }
        throw new IllegalStateException();
    }

    private int share(Booking booking, int delay) {
        int percentage = 0;
        for (int late = venue().settings[3]; late < delay; late += 10) {
            percentage += venue().settings[4];
        }
        return (int) Math.floor(booking.charge * (long) Math.min(percentage, 100) / 100.0);
    }

    /** Refunds an amount euro by euro. */
    private void refund(Booking booking, int amount) {
        for (int euro = 0; euro < amount; euro++) {
            booking.refunded++;
            if (booking.cash > 0) {
                booking.cash--;
                venue().till--;
                continue;
            }
            int last = booking.row.size() - 1;
            while (booking.row.get(last)[1] == 0) {
                last--;
            }
            booking.row.get(last)[1]--;
            venue().vouchers.get(booking.row.get(last)[0])[1]++;
        }
    }

    int cancel(int booking) {
        if (!isBooking(booking)) {
            return INVALID;
        }
        Booking its = booking(booking);
        if (its.state != 0) {
            return ILLEGAL;
        }
        record();
        int amount = its.cash + its.byVouchers();
        if (forecastStart(its, 0) - its.time <= venue().settings[3]) {
            amount = amount / 2;
        }
        its.state = 2;
        refund(its, amount);
        return amount;
    }

    int merge(int one, int other) {
        if (!isBooking(one) || !isBooking(other) || one == other) {
            return INVALID;
        }
        Booking a = booking(one);
        Booking b = booking(other);
        if (a.state != 0 || b.state != 0 || a.room != b.room) {
            return ILLEGAL;
        }
        if (a.players + b.players > roomOf(b).most) {
            return FULL;
        }
        record();
        b.players += a.players;
        b.charge += a.charge;
        b.cash += a.cash;
        b.row.addAll(a.row);
        a.players = 0;
        a.charge = 0;
        a.cash = 0;
        a.row = new ArrayList<>();
        a.state = 3;
        return b.players;
    }

    int play(int booking, int goal, int hints, int wreckage) {
        if (!isBooking(booking) || goal < 0 || goal > roomOf(booking(booking)).length || hints < 0 || hints > 20
                || wreckage < 0 || wreckage > 9) {
            return INVALID;
        }
        Booking its = booking(booking);
        if (its.state != 0 || queue(its.room).get(0) != its) {
            return ILLEGAL;
        }
        record();
        Room room = roomOf(its);
        int[] settings = venue().settings;
        int start = forecastStart(its, 0);
        int effort = goal + hints * settings[0];
        boolean solved = false;
        boolean overrun = false;
        int minutes;
        if (goal == 0) {
            minutes = room.length;
        } else if (effort <= room.length + settings[1]) {
            minutes = effort;
            solved = true;
            overrun = effort > room.length;
        } else {
            minutes = room.length + settings[1];
            overrun = true;
        }
        its.state = 1;
        its.start = start;
        its.minutes = minutes;
        room.plays++;
        room.solved += solved ? 1 : 0;
        room.overruns += overrun ? 1 : 0;
        room.hints += hints;
        room.minutes += minutes;
        room.delay = Math.max(room.delay, start - its.time);
        room.free = start + minutes + room.reset + wreckage * settings[2];
        if (start - its.time > settings[3]) {
            refund(its, share(its, start - its.time));
        }
        return minutes;
    }

    int take(int slot) {
        if (slot != 0 && slot != 1) {
            return INVALID;
        }
        record();
        state.slots[slot] = venue().copy();
        return venue().till;
    }

    int restore(int slot) {
        if (slot != 0 && slot != 1) {
            return INVALID;
        }
        if (state.slots[slot] == null) {
            return ILLEGAL;
        }
        record();
        state.venue = state.slots[slot].copy();
        return venue().till;
    }

    int undo() {
        if (history.isEmpty()) {
            return ILLEGAL;
        }
        state = history.removeLast();
        return history.size();
    }

    int append(int character) {
        if (character < 1 || character > 255) {
            return INVALID;
        }
        if (text.length() == 140) {
            return FULL;
        }
        text += (char) character;
        return text.length();
    }

    int clearText() {
        int before = text.length();
        text = "";
        return before;
    }

    int run() {
        State before = state.copy();
        running = true;
        int answer = runCommands();
        running = false;
        if (answer < 0) {
            state = before;
            return answer;
        }
        State after = state;
        state = before;
        record();
        state = after;
        text = "";
        return answer;
    }

    private int runCommands() {
        Matcher tokens = Pattern.compile("[a-z]+|[0-9]+|[^ ]", Pattern.DOTALL).matcher(text);
        int commands = 0;
        while (tokens.find()) {
            int place = tokens.start();
            String word = tokens.group();
            int wanted = switch (word) {
                case "room", "pay", "play" -> 4;
                case "book" -> 3;
                case "join" -> 2;
                case "gift", "drop" -> 1;
                default -> 0;
            };
            if (wanted == 0) {
                return -1000 - place;
            }
            int[] n = new int[wanted];
            for (int at = 0; at <= wanted; at++) {
                if (!tokens.find()) {
                    return -1000 - text.length();
                }
                if (!tokens.group().matches(at < wanted ? "0|[1-9][0-9]{0,3}" : ";")) {
                    return -1000 - tokens.start();
                }
                if (at < wanted) {
                    n[at] = Integer.parseInt(tokens.group());
                }
            }
            int answer = switch (word) {
                case "room" -> addRoom(n[0], n[1], n[2], n[3]);
                case "gift" -> sellVoucher(n[0]);
                case "book" -> book(n[0], n[1], n[2], -1);
                case "pay" -> book(n[0], n[1], n[2], n[3]);
                case "play" -> play(n[0], n[1], n[2], n[3]);
                case "drop" -> cancel(n[0]);
                default -> merge(n[0], n[1]);
            };
            if (answer < 0) {
                return -1000 - place;
            }
            commands++;
        }
        return commands;
    }

    int count(int what) {
        if (what < 0 || what > 14) {
            return INVALID;
        }
        if (what >= 11) {
            return (int) venue().bookings.stream().filter(booking -> booking.state == what - 11).count();
        }
        int snapshots = (state.slots[0] == null ? 0 : 1) + (state.slots[1] == null ? 0 : 1);
        int[] s = venue().settings;
        return new int[] {venue().rooms.size(), venue().bookings.size(), venue().vouchers.size(), snapshots,
            history.size(), text.length(), s[0], s[1], s[2], s[3], s[4]}[what];
    }

    int room(int room, int what) {
        if (!isRoom(room) || what < 0 || what > 11) {
            return INVALID;
        }
        Room its = venue().rooms.get(room);
        List<Booking> queue = queue(room);
        int next = queue.isEmpty() ? NONE : venue().bookings.indexOf(queue.get(0));
        return new int[] {its.length, its.reset, its.price, its.most, its.free, its.plays, its.solved, its.hints,
            its.minutes, its.delay, its.overruns, next}[what];
    }

    int booking(int booking, int what) {
        if (!isBooking(booking) || what < 0 || what > 10) {
            return INVALID;
        }
        Booking its = booking(booking);
        int left = (int) its.row.stream().filter(payment -> payment[1] > 0).count();
        return new int[] {its.room, its.time, its.players, its.state, its.charge, its.cash, its.byVouchers(),
            its.refunded, its.start, its.minutes, left}[what];
    }

    int voucher(int voucher, int what) {
        if (voucher < 0 || voucher >= venue().vouchers.size() || what < 0 || what > 2) {
            return INVALID;
        }
        if (what < 2) {
            return venue().vouchers.get(voucher)[what];
        }
        return (int) venue().bookings.stream()
            .filter(booking -> booking.row.stream().anyMatch(p -> p[0] == voucher && p[1] > 0)).count();
    }

    int money(int what) {
        return switch (what) {
            case 0 -> venue().till;
            case 1 -> venue().vouchers.stream().mapToInt(voucher -> voucher[1]).sum();
            case 2 -> venue().bookings.stream().mapToInt(booking -> booking.charge).sum();
            case 3 -> venue().bookings.stream().mapToInt(booking -> booking.refunded).sum();
            case 4 -> venue().bookings.stream().mapToInt(booking -> booking.cash).sum();
            case 5 -> venue().bookings.stream().mapToInt(Booking::byVouchers).sum();
            case 6 -> venue().vouchers.stream().mapToInt(voucher -> voucher[0]).sum();
            default -> INVALID;
        };
    }

    int forecast(int booking, int what) {
        if (!isBooking(booking) || what < 0 || what > 2) {
            return INVALID;
        }
        Booking its = booking(booking);
        if (its.state != 0) {
            return NONE;
        }
        int start = forecastStart(its, 0);
        return what == 0 ? start : what == 1 ? start - its.time : share(its, start - its.time);
    }

    int freeTime(int room, int from) {
        if (!isRoom(room) || from < 0 || from > 720) {
            return INVALID;
        }
        for (int time = from; time <= 720; time++) {
            if (possible(room, time, null)) {
                return time;
            }
        }
        return NONE;
    }

    int mergeable(int room, int what) {
        if (!isRoom(room) || what < 0 || what > 2) {
            return INVALID;
        }
        int[] best = {NONE, NONE, NONE};
        State before = state;
        running = true;
        for (int one = 0; one < before.venue.bookings.size(); one++) {
            for (int other = one + 1; other < before.venue.bookings.size(); other++) {
                state = before.copy();
                if (booking(one).room == room) {
                    int players = merge(one, other);
                    if (players > 0 && players > best[2]) {
                        best = new int[] {one, other, players};
                    }
                }
            }
        }
        running = false;
        state = before;
        return best[what];
    }

    int slack(int room) {
        if (!isRoom(room)) {
            return INVALID;
        }
        List<Booking> queue = queue(room);
        int greatest = NONE;
        for (int later = 0; later <= 999 && !queue.isEmpty(); later++) {
            for (Booking booking : queue) {
                if (forecastStart(booking, later) - booking.time > venue().settings[3]) {
                    return greatest;
                }
            }
            greatest = later;
        }
        return greatest;
    }

    int hintsFor(int booking, int goal) {
        if (!isBooking(booking) || goal < 1 || goal > roomOf(booking(booking)).length) {
            return INVALID;
        }
        if (booking(booking).state != 0) {
            return ILLEGAL;
        }
        Room room = roomOf(booking(booking));
        int greatest = 0;
        for (int hints = 0; hints <= 20; hints++) {
            if (goal + hints * venue().settings[0] <= room.length + venue().settings[1]) {
                greatest = hints;
            }
        }
        return greatest;
    }

    int busiest(int place) {
        if (place < 0) {
            return INVALID;
        }
        List<Integer> order = new ArrayList<>();
        for (int room = 0; room < venue().rooms.size(); room++) {
            order.add(room);
        }
        order.sort((a, b) -> venue().rooms.get(b).minutes - venue().rooms.get(a).minutes);
        return place < order.size() ? order.get(place) : NONE;
    }
}
