import java.util.Arrays;
import java.util.Map;
import java.util.Random;
import java.util.TreeMap;

/** Many random runs of calls, each call on the program and on the model, whose answers must be the same. */
public final class ModelTest {
    private static final int RUNS = 3000;
    private static final int CALLS = 512;
    private static final int CALLS_TO_LOOK = 280;
    private static final String[] WORDS = {"room", "gift", "book", "pay", "play", "drop", "join"};
    private static final String[] ODD = {"x", "rooms", ";", "-", "00", "01", "12345", "G", "\t", "9999", "ro", "\u00ff"};

    private static final Checks checks = new Checks();
    // How often each call gave each kind of answer: so many must have been seen that the test is worth something.
    private static final Map<String, Integer> seen = new TreeMap<>();

    private final Random random;
    private final TeamRooms program = new TeamRooms();
    private final Model model = new Model();
    private final StringBuilder story = new StringBuilder();
    private int calls = 0;
    private boolean same = true;

    private ModelTest(long seed) {
        random = new Random(seed);
    }

    public static void main(String[] args) {
        for (int run = 0; run < RUNS && checks.wrong() == 0; run++) {
            new ModelTest(run).go();
        }
        for (String call : new String[] {"addRoom -1", "addRoom -3", "addRoom ok", "setPrice -1", "setPrice ok",
            "set -1", "set ok", "sellVoucher -1", "sellVoucher -3", "sellVoucher ok", "book -1", "book -2", "book -3",
            "book ok", "move -1", "move -2", "move ok", "cancel -1", "cancel -2", "cancel ok", "merge -1", "merge -2",
            "merge -3", "merge ok", "play -1", "play -2", "play ok", "take -1", "take ok", "restore -1", "restore -2",
            "restore ok", "undo -2", "undo ok", "append -1", "append -3", "append ok", "clearText ok", "run ok",
            "run fails", "count -1", "count ok", "room -1", "room -9", "room ok", "booking -1", "booking -9",
            "booking ok", "voucher -1", "voucher ok", "money -1", "money ok", "forecast -1", "forecast -9",
            "forecast ok", "freeTime -1", "freeTime -9", "freeTime ok", "mergeable -1", "mergeable -9", "mergeable ok",
            "slack -1", "slack -9", "slack ok", "hintsFor -1", "hintsFor -2", "hintsFor ok", "busiest -1",
            "busiest -9", "busiest ok"}) {
            checks.holds("seen often enough: " + call, seen.getOrDefault(call, 0) >= 50);
        }
        checks.finish("ModelTest");
    }

    private void go() {
        int rooms = 1 + random.nextInt(3);
        for (int room = 0; room < rooms; room++) {
            addRoom();
        }
        // No step needs more than ten calls, but for a program's, which looks at the limit itself.
        int limit = random.nextBoolean() ? CALLS - 10 : CALLS - CALLS_TO_LOOK;
        while (calls < limit && same) {
            step(limit);
        }
        if (calls < CALLS - CALLS_TO_LOOK + 10) {
            lookAtAll();
        }
        checks.holds("a run has at most 512 calls", calls <= CALLS);
    }

    private void step(int limit) {
        int kind = random.nextInt(100);
        if (kind < 20) {
            book();
        } else if (kind < 30) {
            play();
        } else if (kind < 34) {
            cancel();
        } else if (kind < 40) {
            merge();
        } else if (kind < 44) {
            move();
        } else if (kind < 56) {
            smallAction();
        } else if (kind < 59) {
            writeProgram(limit);
        } else {
            look();
        }
    }

    private int below(int bound) {
        return random.nextInt(bound);
    }

    /** Mostly a value of the range, at times just outside or far outside. */
    private int around(int least, int most) {
        int odd = below(40);
        if (odd == 0) {
            return least - 1;
        }
        if (odd == 1) {
            return most + 1;
        }
        if (odd == 2) {
            return below(2) == 0 ? Integer.MIN_VALUE : Integer.MAX_VALUE;
        }
        if (odd < 6) {
            return below(2) == 0 ? least : most;
        }
        return least + below(Math.max(1, most - least + 1));
    }

    private int someRoom() {
        return around(0, model.count(0) - 1);
    }

    private int someBooking() {
        return around(0, model.count(1) - 1);
    }

    private int someVoucher() {
        return around(-1, model.count(2) - 1);
    }

    private int someTime() {
        return below(3) == 0 ? around(0, 720) : around(0, 240);
    }

    private void addRoom() {
        int a = below(2) == 0 ? around(20, 30) : around(20, 120);
        int b = below(2) == 0 ? around(0, 5) : around(0, 60);
        int c = below(2) == 0 ? around(1, 9) : around(1, 200);
        int d = around(2, 8);
        same("addRoom", program.addRoom(a, b, c, d), model.addRoom(a, b, c, d), a, b, c, d);
    }

    private void book() {
        int a = someRoom();
        int time = model.freeTime(a, below(300));
        int b = below(2) == 0 && time >= 0 ? time : someTime();
        int c = below(2) == 0 ? 2 : around(2, Math.max(2, model.room(a, 3)));
        int d = someVoucher();
        same("book", program.book(a, b, c, d), model.book(a, b, c, d), a, b, c, d);
    }

    private void play() {
        int next = model.room(someRoom(), 11);
        int a = below(5) > 0 && next >= 0 ? next : someBooking();
        int length = Math.max(1, model.room(Math.max(0, model.booking(a, 0)), 0));
        int b = below(2) == 0 ? length - below(Math.min(5, length)) : around(0, length);
        int c = below(2) == 0 ? around(0, 5) : around(0, 20);
        int d = below(2) == 0 ? around(0, 1) : around(0, 9);
        same("play", program.play(a, b, c, d), model.play(a, b, c, d), a, b, c, d);
    }

    private void cancel() {
        int a = someBooking();
        same("cancel", program.cancel(a), model.cancel(a), a);
    }

    private void merge() {
        int room = below(4);
        int one = model.mergeable(room, 0);
        int other = model.mergeable(room, 1);
        int a = below(3) == 0 && one >= 0 ? one : someBooking();
        int b = below(3) == 0 && other >= 0 ? other : someBooking();
        same("merge", program.merge(a, b), model.merge(a, b), a, b);
    }

    private void move() {
        int a = someBooking();
        int b = someTime();
        same("move", program.move(a, b), model.move(a, b), a, b);
    }

    private void smallAction() {
        switch (below(9)) {
            case 0 -> addRoom();
            case 1 -> {
                int a = someRoom();
                int b = around(1, 200);
                same("setPrice", program.setPrice(a, b), model.setPrice(a, b), a, b);
            }
            case 2, 3 -> {
                int a = around(0, 4);
                int b = below(2) == 0 ? around(0, 5) : around(0, 60);
                same("set", program.set(a, b), model.set(a, b), a, b);
            }
            case 4, 5 -> {
                int a = below(2) == 0 ? around(1, 60) : around(1, 500);
                same("sellVoucher", program.sellVoucher(a), model.sellVoucher(a), a);
            }
            case 6 -> {
                int a = around(0, 1);
                same("take", program.take(a), model.take(a), a);
            }
            case 7 -> {
                int a = around(0, 1);
                if (below(3) == 0) {
                    same("restore", program.restore(a), model.restore(a), a);
                }
            }
            default -> {
                for (int times = below(7); times > 0; times--) {
                    same("undo", program.undo(), model.undo());
                }
            }
        }
    }

    private String command() {
        return switch (WORDS[below(WORDS.length)]) {
            case "room" -> "room " + around(20, 120) + " " + around(0, 60) + " " + around(1, 200) + " " + around(2, 8);
            case "gift" -> "gift " + around(1, 500);
            case "book" -> "book " + someRoom() + " " + someTime() + " 2";
            case "pay" -> "pay " + someRoom() + " " + someTime() + " 2 " + below(3);
            case "play" -> "play " + Math.max(0, model.room(someRoom(), 11)) + " " + around(0, 20) + " " + below(9)
                + " " + below(3);
            case "drop" -> "drop " + someBooking();
            default -> "join " + someBooking() + " " + someBooking();
        };
    }

    private void writeProgram(int limit) {
        StringBuilder text = new StringBuilder();
        for (int commands = below(4); commands > 0; commands--) {
            String command = command().replace("-", below(8) == 0 ? "-" : "");
            if (below(8) == 0) {
                int at = below(command.length() + 1);
                command = command.substring(0, at) + ODD[below(ODD.length)] + command.substring(at);
            }
            if (below(8) == 0) {
                command = command.replace(" ", "  ");
            }
            if (below(12) == 0) {
                int at = command.lastIndexOf(' ');
                command = command.substring(0, Math.max(0, at));
            }
            text.append(command).append(below(12) == 0 ? "" : below(4) == 0 ? " ; " : ";");
        }
        if (below(20) == 0) {
            text.append(" ".repeat(150));
        }
        if (below(3) > 0) {
            same("clearText", program.clearText(), model.clearText());
        }
        for (int at = 0; at < text.length() && at < 145 && calls < limit; at++) {
            int character = text.charAt(at);
            same("append", program.append(character), model.append(character), character);
        }
        if (below(4) == 0) {
            int character = around(1, 255);
            same("append", program.append(character), model.append(character), character);
        }
        same("run", program.run(), model.run());
        if (below(8) == 0) {
            same("run", program.run(), model.run());
        }
    }

    private void look() {
        int a = someBooking();
        int r = someRoom();
        switch (below(11)) {
            case 0 -> same("count", w -> program.count(w), w -> model.count(w), around(0, 14));
            case 1 -> same("room", w -> program.room(r, w), w -> model.room(r, w), around(0, 11), r);
            case 2 -> same("booking", w -> program.booking(a, w), w -> model.booking(a, w), around(0, 10), a);
            case 3 -> {
                int v = around(0, model.count(2) - 1);
                same("voucher", w -> program.voucher(v, w), w -> model.voucher(v, w), around(0, 2), v);
            }
            case 4 -> same("money", w -> program.money(w), w -> model.money(w), around(0, 6));
            case 5 -> same("forecast", w -> program.forecast(a, w), w -> model.forecast(a, w), around(0, 2), a);
            case 6 -> same("freeTime", w -> program.freeTime(r, w), w -> model.freeTime(r, w), someTime(), r);
            case 7 -> same("mergeable", w -> program.mergeable(r, w), w -> model.mergeable(r, w), around(0, 2), r);
            case 8 -> same("slack", w -> program.slack(w), w -> model.slack(w), r);
            case 9 -> {
                int length = Math.max(1, model.room(Math.max(0, model.booking(a, 0)), 0));
                same("hintsFor", w -> program.hintsFor(a, w), w -> model.hintsFor(a, w), around(1, length), a);
            }
            default -> same("busiest", w -> program.busiest(w), w -> model.busiest(w), around(0, 4));
        }
    }

    /** Looks at every part of the state that can be seen: 15 + 7 + 16 * 11 + 8 * 3 + 4 * 12 calls at most. */
    private void lookAtAll() {
        for (int what = 0; what <= 14; what++) {
            same("count", w -> program.count(w), w -> model.count(w), what);
        }
        for (int what = 0; what <= 6; what++) {
            same("money", w -> program.money(w), w -> model.money(w), what);
        }
        for (int at = 0; at < model.count(1); at++) {
            int booking = at;
            for (int what = 0; what <= 10; what++) {
                same("booking", w -> program.booking(booking, w), w -> model.booking(booking, w), what, booking);
            }
        }
        for (int at = 0; at < model.count(2); at++) {
            int voucher = at;
            for (int what = 0; what <= 2; what++) {
                same("voucher", w -> program.voucher(voucher, w), w -> model.voucher(voucher, w), what, voucher);
            }
        }
        for (int at = 0; at < model.count(0); at++) {
            int room = at;
            for (int what = 0; what <= 11; what++) {
                same("room", w -> program.room(room, w), w -> model.room(room, w), what, room);
            }
        }
    }

    private interface Call {
        int of(int argument);
    }

    /** Gives the last argument of a call to both; the first one, if there are two, is for the story alone. */
    private void same(String name, Call ours, Call due, int last, int... first) {
        int[] arguments = Arrays.copyOf(first, first.length + 1);
        arguments[first.length] = last;
        same(name, ours.of(last), due.of(last), arguments);
    }

    private void same(String name, int got, int want, int... arguments) {
        calls++;
        story.append(name).append(Arrays.toString(arguments)).append(' ').append(want).append('\n');
        String kind = want >= 0 ? "ok" : want <= -1000 ? "fails" : String.valueOf(want);
        seen.merge(name + " " + kind, 1, Integer::sum);
        if (same) {
            checks.due(name, got, want);
        }
        if (same && got != want) {
            same = false;
            System.out.println(story);
        }
    }
}
