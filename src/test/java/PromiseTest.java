/** Every promise of the document by itself: ordinary inputs, the edges that it names, and wrong inputs. */
public final class PromiseTest {
    private static final int INVALID = TeamRooms.INVALID_ARGUMENT;
    private static final int ILLEGAL = TeamRooms.ILLEGAL_STATE;
    private static final int FULL = TeamRooms.CAPACITY_EXCEEDED;
    private static final int NONE = TeamRooms.NONE;
    private static final int MAX = Integer.MAX_VALUE;
    private static final int MIN = Integer.MIN_VALUE;

    private static final Checks checks = new Checks();

    public static void main(String[] args) {
        constants();
        newObject();
        addRoom();
        setPrice();
        set();
        sellVoucher();
        book();
        bookPays();
        move();
        cancel();
        cancelRefunds();
        merge();
        mergeRows();
        play();
        playResults();
        playSettings();
        playRefunds();
        take();
        restore();
        undo();
        undoEveryAction();
        append();
        clearText();
        run();
        runTokens();
        runFailures();
        runErrors();
        count();
        room();
        booking();
        voucher();
        money();
        forecast();
        freeTime();
        mergeable();
        slack();
        hintsFor();
        busiest();
        checks.finish("PromiseTest");
    }

    private static void due(String call, int got, int want) {
        checks.due(call, got, want);
    }

    /** A venue with one room of 30 + 10 minutes, 10 euros, 6 players. */
    private static TeamRooms oneRoom() {
        TeamRooms x = new TeamRooms();
        x.addRoom(30, 10, 10, 6);
        return x;
    }

    /** A venue with a room whose plays follow one another at once: 20 + 0 minutes, 10 euros, 8 players. */
    private static TeamRooms tightRoom(int bookings) {
        TeamRooms x = new TeamRooms();
        x.addRoom(20, 0, 10, 8);
        for (int at = 0; at < bookings; at++) {
            x.book(0, 20 * at, 2, -1);
        }
        return x;
    }

    private static void write(TeamRooms x, String text) {
        x.clearText();
        for (int at = 0; at < text.length(); at++) {
            due("append in " + text, x.append(text.charAt(at)), at + 1);
        }
    }

    private static int runText(TeamRooms x, String text) {
        write(x, text);
        return x.run();
    }

    private static void constants() {
        due("INVALID_ARGUMENT", TeamRooms.INVALID_ARGUMENT, -1);
        due("ILLEGAL_STATE", TeamRooms.ILLEGAL_STATE, -2);
        due("CAPACITY_EXCEEDED", TeamRooms.CAPACITY_EXCEEDED, -3);
        due("NONE", TeamRooms.NONE, -9);
    }

    private static void newObject() {
        TeamRooms x = new TeamRooms();
        int[] first = {0, 0, 0, 0, 0, 0, 2, 10, 5, 15, 20, 0, 0, 0, 0};
        for (int what = 0; what < first.length; what++) {
            due("new: count " + what, x.count(what), first[what]);
        }
        for (int what = 0; what <= 6; what++) {
            due("new: money " + what, x.money(what), 0);
        }
        due("new: room", x.room(0, 0), INVALID);
        due("new: booking", x.booking(0, 0), INVALID);
        due("new: voucher", x.voucher(0, 0), INVALID);
        due("new: restore", x.restore(0), ILLEGAL);
        due("new: undo", x.undo(), ILLEGAL);
        due("new: clearText", x.clearText(), 0);
        TeamRooms other = oneRoom();
        due("new: objects are apart", x.count(0), 0);
        due("new: objects are apart", other.count(0), 1);
    }

    private static void addRoom() {
        TeamRooms x = new TeamRooms();
        due("addRoom short", x.addRoom(19, 0, 1, 2), INVALID);
        due("addRoom long", x.addRoom(121, 0, 1, 2), INVALID);
        due("addRoom reset", x.addRoom(20, -1, 1, 2), INVALID);
        due("addRoom reset", x.addRoom(20, 61, 1, 2), INVALID);
        due("addRoom price", x.addRoom(20, 0, 0, 2), INVALID);
        due("addRoom price", x.addRoom(20, 0, 201, 2), INVALID);
        due("addRoom players", x.addRoom(20, 0, 1, 1), INVALID);
        due("addRoom players", x.addRoom(20, 0, 1, 9), INVALID);
        due("addRoom wild", x.addRoom(MIN, MAX, MIN, MAX), INVALID);
        due("addRoom changed nothing", x.count(0) + x.count(4), 0);
        due("addRoom least", x.addRoom(20, 0, 1, 2), 0);
        due("addRoom most", x.addRoom(120, 60, 200, 8), 1);
        due("addRoom", x.addRoom(60, 15, 25, 6), 2);
        due("addRoom", x.addRoom(61, 16, 26, 7), 3);
        due("addRoom wrong ahead of full", x.addRoom(19, 0, 1, 2), INVALID);
        due("addRoom full", x.addRoom(20, 0, 1, 2), FULL);
        due("addRoom count", x.count(0), 4);
        int[] second = {120, 60, 200, 8, 0, 0, 0, 0, 0, 0, 0, NONE};
        for (int what = 0; what < second.length; what++) {
            due("addRoom property " + what, x.room(1, what), second[what]);
        }
        due("addRoom history", x.count(4), 4);
    }

    private static void setPrice() {
        TeamRooms x = oneRoom();
        x.book(0, 0, 2, -1);
        due("setPrice", x.setPrice(0, 200), 10);
        due("setPrice", x.setPrice(0, 1), 200);
        due("setPrice low", x.setPrice(0, 0), INVALID);
        due("setPrice high", x.setPrice(0, 201), INVALID);
        due("setPrice no room", x.setPrice(1, 5), INVALID);
        due("setPrice no room", x.setPrice(-1, 5), INVALID);
        due("setPrice wild", x.setPrice(MIN, MAX), INVALID);
        due("setPrice kept", x.room(0, 2), 1);
        due("setPrice old charge", x.booking(0, 4), 20);
        x.book(0, 100, 3, -1);
        due("setPrice new charge", x.booking(1, 4), 3);
        due("setPrice history", x.count(4), 5);
    }

    private static void set() {
        TeamRooms x = new TeamRooms();
        int[] first = {2, 10, 5, 15, 20};
        int[] most = {10, 30, 20, 60, 50};
        for (int what = 0; what < 5; what++) {
            due("set high " + what, x.set(what, most[what] + 1), INVALID);
            due("set low " + what, x.set(what, -1), INVALID);
            due("set most " + what, x.set(what, most[what]), first[what]);
            due("set least " + what, x.set(what, 0), most[what]);
            due("set again " + what, x.set(what, what + 1), 0);
        }
        for (int what = 0; what < 5; what++) {
            due("set is " + what, x.count(6 + what), what + 1);
        }
        due("set what", x.set(-1, 0), INVALID);
        due("set what", x.set(5, 0), INVALID);
        due("set wild", x.set(MAX, MIN), INVALID);
        due("set history", x.count(4), 5);
    }

    private static void sellVoucher() {
        TeamRooms x = new TeamRooms();
        due("sellVoucher 0", x.sellVoucher(0), INVALID);
        due("sellVoucher 501", x.sellVoucher(501), INVALID);
        due("sellVoucher wild", x.sellVoucher(MIN), INVALID);
        due("sellVoucher nothing", x.count(2) + x.count(4) + x.money(0), 0);
        due("sellVoucher 1", x.sellVoucher(1), 0);
        due("sellVoucher 500", x.sellVoucher(500), 1);
        due("sellVoucher till", x.money(0), 501);
        for (int voucher = 2; voucher < 8; voucher++) {
            due("sellVoucher", x.sellVoucher(10), voucher);
        }
        due("sellVoucher wrong ahead of full", x.sellVoucher(501), INVALID);
        due("sellVoucher full", x.sellVoucher(10), FULL);
        due("sellVoucher till", x.money(0), 561);
        due("sellVoucher value", x.voucher(1, 0), 500);
        due("sellVoucher balance", x.voucher(1, 1), 500);
    }

    private static void book() {
        TeamRooms x = oneRoom();
        due("book no room", x.book(1, 0, 2, -1), INVALID);
        due("book no room", x.book(-1, 0, 2, -1), INVALID);
        due("book time", x.book(0, -1, 2, -1), INVALID);
        due("book time", x.book(0, 721, 2, -1), INVALID);
        due("book players", x.book(0, 0, 1, -1), INVALID);
        due("book players", x.book(0, 0, 7, -1), INVALID);
        due("book voucher", x.book(0, 0, 2, 0), INVALID);
        due("book voucher", x.book(0, 0, 2, -2), INVALID);
        due("book wild", x.book(MAX, MIN, MAX, MIN), INVALID);
        due("book", x.book(0, 300, 6, -1), 0);
        due("book too near behind", x.book(0, 339, 2, -1), ILLEGAL);
        due("book too near ahead", x.book(0, 261, 2, -1), ILLEGAL);
        due("book same time", x.book(0, 300, 2, -1), ILLEGAL);
        due("book behind", x.book(0, 340, 2, -1), 1);
        due("book ahead", x.book(0, 260, 2, -1), 2);
        due("book invalid ahead of illegal", x.book(0, 300, 7, -1), INVALID);
        x.addRoom(20, 0, 10, 8);
        due("book another room", x.book(1, 300, 8, -1), 3);
        x.cancel(0);
        due("book where one is cancelled", x.book(0, 300, 2, -1), 4);
        x.play(2, 0, 0, 0);
        due("book ahead of a played one", x.book(0, 100, 2, -1), ILLEGAL);
        due("book where one is played", x.book(0, 260, 2, -1), ILLEGAL);
        x.merge(4, 1);
        due("book too near to a played one", x.book(0, 299, 2, -1), ILLEGAL);
        due("book where one is merged", x.book(0, 300, 2, -1), 5);
        TeamRooms y = tightRoom(16);
        due("book 16", y.count(1), 16);
        due("book illegal ahead of full", y.book(0, 300, 2, -1), ILLEGAL);
        due("book invalid ahead of full", y.book(0, 400, 9, -1), INVALID);
        due("book full", y.book(0, 720, 2, -1), FULL);
        due("book changed nothing", y.money(0), 320);
    }

    private static void bookPays() {
        TeamRooms x = oneRoom();
        x.sellVoucher(50);
        x.sellVoucher(20);
        due("book in cash", x.book(0, 0, 3, -1), 0);
        due("cash", x.booking(0, 5), 30);
        due("no vouchers", x.booking(0, 6) + x.booking(0, 10), 0);
        due("till", x.money(0), 100);
        due("book by voucher", x.book(0, 40, 3, 0), 1);
        due("no cash", x.booking(1, 5), 0);
        due("voucher payment", x.booking(1, 6), 30);
        due("balance", x.voucher(0, 1), 20);
        due("till", x.money(0), 100);
        due("book by a part", x.book(0, 80, 6, 0), 2);
        due("rest in cash", x.booking(2, 5), 40);
        due("part", x.booking(2, 6), 20);
        due("till", x.money(0), 140);
        due("book by an empty voucher", x.book(0, 120, 2, 0), 3);
        due("all in cash", x.booking(3, 5), 20);
        due("no payment of 0", x.booking(3, 10), 0);
        due("book exactly", x.book(0, 160, 2, 1), 4);
        due("exactly", x.voucher(1, 1), 0);
        due("exactly", x.booking(4, 5), 0);
        due("charge", x.booking(2, 4), 60);
    }

    private static void move() {
        TeamRooms x = oneRoom();
        x.book(0, 0, 2, -1);
        x.book(0, 100, 2, -1);
        x.book(0, 200, 2, -1);
        due("move", x.move(1, 110), 100);
        due("move back over itself", x.move(1, 100), 110);
        due("move to the same", x.move(1, 100), 100);
        due("move near", x.move(1, 40), 100);
        due("move nearer", x.move(1, 39), ILLEGAL);
        due("move near", x.move(1, 160), 40);
        due("move nearer", x.move(1, 161), ILLEGAL);
        due("move behind another", x.move(1, 720), 160);
        due("move time", x.move(1, 721), INVALID);
        due("move time", x.move(1, -1), INVALID);
        due("move none", x.move(3, 0), INVALID);
        due("move none", x.move(-1, 0), INVALID);
        due("move wild", x.move(MIN, MAX), INVALID);
        due("move kept", x.booking(1, 1), 720);
        due("move next", x.room(0, 11), 0);
        due("move 0 away", x.move(0, 300), 0);
        due("move next", x.room(0, 11), 2);
        x.play(2, 0, 0, 0);
        due("move a played one", x.move(2, 500), ILLEGAL);
        due("move a played one, wrong time", x.move(2, 721), INVALID);
        due("move ahead of a played one", x.move(0, 0), ILLEGAL);
        due("move beside a played one", x.move(0, 239), ILLEGAL);
        due("move behind a played one", x.move(0, 240), 300);
        x.cancel(0);
        due("move a cancelled one", x.move(0, 400), ILLEGAL);
        due("move to where one is cancelled", x.move(1, 241), 720);
        x.book(0, 400, 2, -1);
        x.merge(1, 3);
        due("move a merged one", x.move(1, 500), ILLEGAL);
        due("move to where one is merged", x.move(3, 241), 400);
        TeamRooms y = oneRoom();
        y.addRoom(20, 0, 1, 2);
        y.book(0, 50, 2, -1);
        y.book(1, 0, 2, -1);
        due("move beside another room's", y.move(1, 50), 0);
    }

    private static void cancel() {
        TeamRooms x = oneRoom();
        due("cancel none", x.cancel(0), INVALID);
        x.book(0, 0, 3, -1);
        due("cancel none", x.cancel(1), INVALID);
        due("cancel none", x.cancel(-1), INVALID);
        due("cancel wild", x.cancel(MAX), INVALID);
        due("cancel half", x.cancel(0), 15);
        due("cancel state", x.booking(0, 3), 2);
        due("cancel charge stays", x.booking(0, 4), 30);
        due("cancel players stay", x.booking(0, 2), 3);
        due("cancel refunded", x.booking(0, 7), 15);
        due("cancel start", x.booking(0, 8), NONE);
        due("cancel again", x.cancel(0), ILLEGAL);
        x.setPrice(0, 5);
        x.book(0, 0, 3, -1);
        due("cancel rounds down", x.cancel(1), 7);
        due("cancel keeps the rest", x.booking(1, 5), 8);
        due("cancel till", x.money(0), 23);
        x.book(0, 0, 2, -1);
        x.play(2, 0, 0, 0);
        due("cancel a played one", x.cancel(2), ILLEGAL);
        x.book(0, 100, 2, -1);
        x.book(0, 200, 2, -1);
        x.merge(3, 4);
        due("cancel a merged one", x.cancel(3), ILLEGAL);
    }

    private static void cancelRefunds() {
        TeamRooms x = tightRoom(4);
        x.set(1, 15);
        x.play(0, 20, 20, 0);
        due("cancel: delay as the patience", x.forecast(1, 1), 15);
        due("cancel: half then", x.cancel(1), 10);
        x.set(3, 0);
        due("cancel: no delay behind the gap", x.forecast(2, 1), 0);
        due("cancel: half then", x.cancel(2), 10);
        TeamRooms y = tightRoom(4);
        y.set(1, 16);
        y.play(0, 20, 20, 0);
        due("cancel: delay over the patience", y.forecast(2, 1), 16);
        due("cancel: all then", y.cancel(2), 20);
        due("cancel: all then", y.booking(2, 5), 0);
        due("cancel: till", y.money(0), 60);
        TeamRooms z = oneRoom();
        z.sellVoucher(20);
        z.sellVoucher(25);
        z.book(0, 0, 3, 0);
        z.book(0, 40, 3, 1);
        z.merge(0, 1);
        due("cancel: row", z.booking(1, 6), 45);
        due("cancel: half of all", z.cancel(1), 30);
        due("cancel: cash first", z.booking(1, 5), 0);
        due("cancel: then the last of the row", z.voucher(0, 1), 15);
        due("cancel: not the first of the row", z.voucher(1, 1), 0);
        due("cancel: payments", z.booking(1, 10), 2);
        due("cancel: till", z.money(0), 45);
    }

    private static void merge() {
        TeamRooms x = oneRoom();
        x.addRoom(20, 0, 10, 8);
        x.book(0, 0, 3, -1);
        x.book(0, 40, 2, -1);
        x.book(0, 80, 4, -1);
        x.book(1, 0, 2, -1);
        due("merge same", x.merge(0, 0), INVALID);
        due("merge none", x.merge(4, 0), INVALID);
        due("merge none", x.merge(0, 4), INVALID);
        due("merge none", x.merge(-1, 0), INVALID);
        due("merge none", x.merge(0, -1), INVALID);
        due("merge same none", x.merge(9, 9), INVALID);
        due("merge wild", x.merge(MIN, MAX), INVALID);
        due("merge rooms", x.merge(0, 3), ILLEGAL);
        due("merge full", x.merge(0, 2), FULL);
        due("merge", x.merge(1, 2), 6);
        int[] merged = {0, 40, 0, 3, 0, 0, 0, 0, NONE, NONE, 0};
        int[] whole = {0, 80, 6, 0, 60, 60, 0, 0, NONE, NONE, 0};
        for (int what = 0; what <= 10; what++) {
            due("merge: one has " + what, x.booking(1, what), merged[what]);
            due("merge: other has " + what, x.booking(2, what), whole[what]);
        }
        due("merge: till", x.money(0), 110);
        due("merge a merged one", x.merge(1, 0), ILLEGAL);
        due("merge into a merged one", x.merge(0, 1), ILLEGAL);
        due("merge a merged one with itself", x.merge(1, 1), INVALID);
        x.cancel(0);
        due("merge a cancelled one", x.merge(0, 2), ILLEGAL);
        due("merge into a cancelled one", x.merge(2, 0), ILLEGAL);
        x.play(2, 0, 0, 0);
        x.book(0, 200, 2, -1);
        due("merge a played one", x.merge(2, 4), ILLEGAL);
        due("merge into a played one", x.merge(4, 2), ILLEGAL);
        due("merge illegal ahead of full", x.merge(4, 3), ILLEGAL);
    }

    private static void mergeRows() {
        TeamRooms x = tightRoom(0);
        x.sellVoucher(12);
        x.sellVoucher(5);
        x.sellVoucher(7);
        x.set(4, 50);
        x.book(0, 0, 2, -1);
        x.book(0, 20, 2, 0);
        x.book(0, 40, 2, 1);
        x.book(0, 60, 2, 2);
        due("rows: 0 into 3", x.merge(1, 3), 4);
        due("rows: 2 into 3", x.merge(2, 3), 6);
        due("rows: cash", x.booking(3, 5), 36);
        due("rows: vouchers", x.booking(3, 6), 24);
        due("rows: number", x.booking(3, 10), 3);
        x.move(3, 20);
        x.set(1, 30);
        x.set(2, 20);
        x.set(3, 10);
        x.play(0, 20, 20, 9);
        // The row is now voucher 2, voucher 0, voucher 1.
        due("rows: delay", x.forecast(3, 1), 210);
        due("rows: refund", x.forecast(3, 2), 60);
        x.set(4, 4);
        due("rows: refund", x.forecast(3, 2), 48);
        x.play(3, 0, 0, 0);
        due("rows: refunded", x.booking(3, 7), 48);
        due("rows: last back", x.voucher(1, 1), 5);
        due("rows: middle partly back", x.voucher(0, 1), 7);
        due("rows: first kept", x.voucher(2, 1), 0);
        due("rows: number", x.booking(3, 10), 2);
        TeamRooms y = tightRoom(0);
        y.sellVoucher(100);
        y.book(0, 0, 2, 0);
        y.book(0, 20, 2, 0);
        due("rows: merge", y.merge(0, 1), 4);
        due("rows: two of the same", y.booking(1, 10), 2);
        due("rows: bookings of the voucher", y.voucher(0, 2), 1);
        y.cancel(1);
        due("rows: one is 0 now", y.booking(1, 10), 1);
        due("rows: its bookings", y.voucher(0, 2), 1);
        due("rows: balance", y.voucher(0, 1), 80);
    }

    private static void play() {
        TeamRooms x = oneRoom();
        due("play none", x.play(0, 1, 0, 0), INVALID);
        x.book(0, 50, 2, -1);
        x.book(0, 10, 2, -1);
        x.book(0, 100, 2, -1);
        due("play none", x.play(3, 1, 0, 0), INVALID);
        due("play none", x.play(-1, 1, 0, 0), INVALID);
        due("play goal", x.play(1, -1, 0, 0), INVALID);
        due("play goal", x.play(1, 31, 0, 0), INVALID);
        due("play hints", x.play(1, 1, -1, 0), INVALID);
        due("play hints", x.play(1, 1, 21, 0), INVALID);
        due("play wreckage", x.play(1, 1, 0, -1), INVALID);
        due("play wreckage", x.play(1, 1, 0, 10), INVALID);
        due("play wild", x.play(MAX, MIN, MAX, MIN), INVALID);
        due("play too early", x.play(0, 1, 0, 0), ILLEGAL);
        due("play too early", x.play(2, 1, 0, 0), ILLEGAL);
        due("play invalid ahead of illegal", x.play(2, 31, 0, 0), INVALID);
        due("play", x.play(1, 30, 0, 0), 30);
        due("play start", x.booking(1, 8), 10);
        due("play minutes", x.booking(1, 9), 30);
        due("play state", x.booking(1, 3), 1);
        due("play free", x.room(0, 4), 50);
        due("play again", x.play(1, 30, 0, 0), ILLEGAL);
        x.cancel(0);
        due("play a cancelled one", x.play(0, 30, 0, 0), ILLEGAL);
        due("play behind a cancelled one", x.play(2, 1, 20, 9), 40);
        due("play most", x.room(0, 4), 195);
        x.book(0, 200, 2, -1);
        x.book(0, 240, 2, -1);
        x.merge(3, 4);
        due("play a merged one", x.play(3, 30, 0, 0), ILLEGAL);
        due("play behind a merged one", x.play(4, 30, 0, 0), 30);
        TeamRooms y = tightRoom(1);
        y.addRoom(20, 0, 10, 8);
        y.book(1, 5, 2, -1);
        due("play beside another room", y.play(1, 5, 0, 0), 5);
        due("play free of the other room", y.room(0, 4), 0);
    }

    private static void playResults() {
        TeamRooms x = tightRoom(16);
        x.set(3, 60);
        // goal, hints, minutes; is it solved, is it an overrun
        int[][] rows = {
            {20, 0, 20, 1, 0}, {0, 0, 20, 0, 0}, {0, 20, 20, 0, 0}, {19, 1, 21, 1, 1},
            {18, 1, 20, 1, 0}, {20, 5, 30, 1, 1}, {19, 6, 30, 0, 1}, {1, 20, 30, 0, 1},
            {1, 0, 1, 1, 0}, {10, 10, 30, 1, 1},
        };
        int solved = 0;
        int overruns = 0;
        int hints = 0;
        int minutes = 0;
        for (int at = 0; at < rows.length; at++) {
            int[] row = rows[at];
            due("result " + at, x.play(at, row[0], row[1], 0), row[2]);
            solved += row[3];
            overruns += row[4];
            hints += row[1];
            minutes += row[2];
            due("plays " + at, x.room(0, 5), at + 1);
            due("solved " + at, x.room(0, 6), solved);
            due("hints " + at, x.room(0, 7), hints);
            due("minutes " + at, x.room(0, 8), minutes);
            due("overruns " + at, x.room(0, 10), overruns);
        }
        x.set(1, 0);
        due("no grace: solved", x.play(10, 20, 0, 0), 20);
        due("no grace: not solved", x.play(11, 20, 1, 0), 20);
        due("no grace: solved", x.room(0, 6), solved + 1);
        due("no grace: overruns", x.room(0, 10), overruns + 1);
        x.set(0, 0);
        due("no cost", x.play(12, 20, 20, 0), 20);
        due("no cost: solved", x.room(0, 6), solved + 2);
    }

    private static void playSettings() {
        TeamRooms x = oneRoom();
        x.book(0, 7, 2, -1);
        x.book(0, 300, 2, -1);
        x.set(0, 3);
        x.set(2, 7);
        due("settings: minutes", x.play(0, 5, 4, 3), 17);
        due("settings: free", x.room(0, 4), 7 + 17 + 10 + 21);
        due("settings: on time", x.play(1, 5, 0, 0), 5);
        due("settings: start", x.booking(1, 8), 300);
        due("settings: free", x.room(0, 4), 315);
        due("settings: delay", x.room(0, 9), 0);
        x.book(0, 340, 2, -1);
        x.book(0, 380, 2, -1);
        x.book(0, 600, 2, -1);
        due("settings: long", x.play(2, 30, 0, 9), 30);
        due("settings: free", x.room(0, 4), 443);
        x.play(3, 30, 0, 0);
        due("settings: delayed", x.booking(3, 8), 443);
        due("settings: delay", x.room(0, 9), 63);
        x.play(4, 30, 0, 0);
        due("settings: greatest delay stays", x.room(0, 9), 63);
    }

    /** What is refunded of 100 euros for a delay, with the patience 15 and 20 percent. */
    private static int refundOf(int delay, int players, int price, int percentage) {
        TeamRooms x = new TeamRooms();
        x.addRoom(20, 0, price, 8);
        x.book(0, 0, 2, -1);
        x.book(0, 20, players, -1);
        // The first play takes 20 minutes and the grace, and the wreckage takes 20 minutes each.
        x.set(2, 20);
        x.set(1, delay % 20);
        x.set(0, 10);
        x.set(4, percentage);
        x.play(0, 20, 20, delay / 20);
        due("delay", x.forecast(1, 1), delay);
        int promised = x.forecast(1, 2);
        due("play delayed", x.play(1, 0, 0, 0), 20);
        due("promised refund", promised, x.booking(1, 7));
        due("cash left", x.booking(1, 5), players * price - promised);
        due("till", x.money(0), (players + 2) * price - promised);
        return promised;
    }

    private static void playRefunds() {
        due("refund 0", refundOf(0, 4, 25, 20), 0);
        due("refund 15", refundOf(15, 4, 25, 20), 0);
        due("refund 16", refundOf(16, 4, 25, 20), 20);
        due("refund 25", refundOf(25, 4, 25, 20), 20);
        due("refund 26", refundOf(26, 4, 25, 20), 40);
        due("refund 55", refundOf(55, 4, 25, 20), 80);
        due("refund 65", refundOf(65, 4, 25, 20), 100);
        due("refund 66", refundOf(66, 4, 25, 20), 100);
        due("refund 180", refundOf(180, 4, 25, 20), 100);
        due("refund 66 of 15 percent", refundOf(66, 4, 25, 15), 90);
        due("refund 16 of 0 percent", refundOf(16, 4, 25, 0), 0);
        due("refund 26 of 7 percent of 21", refundOf(26, 3, 7, 7), 2);
        due("refund 36 of 33 percent of 21", refundOf(36, 3, 7, 33), 20);
        due("refund 46 of 33 percent of 21", refundOf(46, 3, 7, 33), 21);
    }

    private static void take() {
        TeamRooms x = oneRoom();
        x.sellVoucher(44);
        due("take -1", x.take(-1), INVALID);
        due("take 2", x.take(2), INVALID);
        due("take wild", x.take(MAX), INVALID);
        due("take none", x.count(3) + x.count(4), 2);
        due("take", x.take(1), 44);
        due("take: one", x.count(3), 1);
        due("take: slot 0 is empty", x.restore(0), ILLEGAL);
        x.book(0, 0, 2, -1);
        due("take", x.take(0), 64);
        due("take: two", x.count(3), 2);
        due("take in place", x.take(1), 64);
        due("take: two", x.count(3), 2);
        due("take: history", x.count(4), 5);
        x.cancel(0);
        due("take: till", x.money(0), 54);
        due("take: the later one", x.restore(1), 64);
        due("take: the later one", x.booking(0, 3), 0);
    }

    private static void restore() {
        TeamRooms x = oneRoom();
        due("restore -1", x.restore(-1), INVALID);
        due("restore 2", x.restore(2), INVALID);
        due("restore wild", x.restore(MIN), INVALID);
        due("restore empty", x.restore(0), ILLEGAL);
        due("restore empty", x.restore(1), ILLEGAL);
        x.set(3, 17);
        x.sellVoucher(30);
        x.book(0, 0, 2, 0);
        x.book(0, 40, 3, 0);
        x.play(0, 30, 2, 1);
        x.take(0);
        x.append('a');
        x.addRoom(20, 0, 1, 2);
        x.setPrice(0, 11);
        x.set(3, 1);
        x.sellVoucher(50);
        x.cancel(1);
        x.book(0, 100, 2, 1);
        x.play(2, 30, 5, 5);
        x.take(1);
        due("restore", x.restore(0), 50);
        due("restore: rooms", x.count(0), 1);
        due("restore: bookings", x.count(1), 2);
        due("restore: vouchers", x.count(2), 1);
        due("restore: setting", x.count(9), 17);
        due("restore: price", x.room(0, 2), 10);
        due("restore: free", x.room(0, 4), 49);
        due("restore: plays", x.room(0, 5), 1);
        due("restore: hints", x.room(0, 7), 2);
        due("restore: booking", x.booking(1, 3), 0);
        due("restore: cash", x.booking(1, 5), 20);
        due("restore: payments", x.booking(1, 10), 1);
        due("restore: balance", x.voucher(0, 1), 0);
        due("restore: till", x.money(0), 50);
        due("restore: snapshots stay", x.count(3), 2);
        due("restore: text stays", x.count(5), 1);
        due("restore: history", x.count(4), 5);
        x.sellVoucher(500);
        due("restore again", x.restore(0), 50);
        due("restore the other", x.restore(1), 80);
        due("restore the other", x.count(1), 3);
        due("restore: undo", x.undo(), 4);
        due("restore: undone", x.money(0), 50);
        rowsUsedAgain();
    }

    /** Whatever restore() and undo() took away leaves nothing behind in what comes anew. */
    private static void rowsUsedAgain() {
        TeamRooms x = oneRoom();
        x.sellVoucher(200);
        x.take(0);
        x.addRoom(20, 0, 10, 8);
        x.book(1, 0, 2, 0);
        x.book(1, 20, 2, 0);
        x.book(1, 40, 2, 0);
        x.book(1, 60, 2, 0);
        x.merge(3, 2);
        x.set(3, 0);
        x.play(0, 20, 20, 9);
        x.play(1, 20, 20, 9);
        x.play(2, 20, 0, 9);
        x.restore(0);
        x.addRoom(30, 0, 10, 8);
        for (int what = 4; what <= 10; what++) {
            due("used again: room " + what, x.room(1, what), 0);
        }
        for (int booking = 0; booking < 4; booking++) {
            x.book(1, 30 * booking, 2, 0);
            int[] anew = {1, 30 * booking, 2, 0, 20, 0, 20, 0, NONE, NONE, 1};
            for (int what = 0; what <= 10; what++) {
                due("used again: booking " + booking + " " + what, x.booking(booking, what), anew[what]);
            }
        }
        due("used again: balance", x.voucher(0, 1), 120);
        due("used again: cancel", x.cancel(3), 10);
        due("used again: balance", x.voucher(0, 1), 130);
        due("used again: undo", x.undo(), 4);
        due("used again: undo", x.undo(), 3);
        x.book(1, 90, 2, -1);
        due("used again: no payment", x.booking(3, 6), 0);
        due("used again: no payment", x.booking(3, 10), 0);
        due("used again: no refund", x.booking(3, 7), 0);
        due("used again: bookings of the voucher", x.voucher(0, 2), 3);
    }

    private static void undo() {
        TeamRooms x = new TeamRooms();
        due("undo nothing", x.undo(), ILLEGAL);
        for (int value = 1; value <= 8; value++) {
            x.sellVoucher(value);
            x.sellVoucher(501);
            due("history", x.count(4), Math.min(5, value));
        }
        for (int left = 4; left >= 0; left--) {
            due("undo", x.undo(), left);
            due("undo: vouchers", x.count(2), left + 3);
            due("undo: till", x.money(0), (left + 3) * (left + 4) / 2);
            due("undo: history", x.count(4), left);
        }
        due("undo: the oldest was dropped", x.undo(), ILLEGAL);
        due("undo: vouchers", x.count(2), 3);
        x.sellVoucher(9);
        due("undo: on and back", x.undo(), 0);
        due("undo: balance", x.money(1), 6);
        x.append('x');
        x.take(0);
        x.sellVoucher(10);
        x.take(0);
        x.sellVoucher(20);
        due("undo a sale", x.undo(), 3);
        due("undo the second snapshot", x.undo(), 2);
        due("undo: the first one is there", x.count(3), 1);
        due("undo: the first one is there", x.restore(0), 6);
        due("undo the restoring", x.undo(), 2);
        due("undo: till", x.money(0), 16);
        x.undo();
        due("undo the first snapshot", x.undo(), 0);
        due("undo: none is there", x.count(3), 0);
        due("undo: none is there", x.restore(0), ILLEGAL);
        due("undo: the text stays", x.count(5), 1);
        x.sellVoucher(0);
        x.book(0, 0, 2, -1);
        x.take(2);
        due("undo: failures are no actions", x.count(4), 0);
        x.append('y');
        x.clearText();
        x.money(0);
        due("undo: looking is no action", x.count(4), 0);
        x.set(0, 2);
        due("undo: nothing changed, but recorded", x.count(4), 1);
    }

    /** Another state than any before, which undo() has to bring back. */
    private static void change(TeamRooms x, int price) {
        x.setPrice(0, price);
        x.book(0, 700, 2, -1);
        x.undo();
        x.set(4, price % 50);
    }

    private static void undone(TeamRooms x, String action, int price, int what, int was) {
        due("undo " + action, x.undo(), 4);
        due("undo " + action + ": price", x.room(0, 2), price);
        due("undo " + action + ": percentage", x.count(10), price % 50);
        due("undo " + action + ": bookings", x.count(1), 2);
        due("undo " + action + ": what it changed", what, was);
    }

    private static void undoEveryAction() {
        TeamRooms x = oneRoom();
        x.book(0, 0, 2, -1);
        x.book(0, 40, 2, -1);
        x.set(0, 3);
        change(x, 50);
        x.setPrice(0, 99);
        undone(x, "setPrice", 50, x.room(0, 2), 99);
        change(x, 51);
        x.set(1, 3);
        undone(x, "set", 51, x.count(7), 3);
        due("undo set", x.count(7), 10);
        change(x, 52);
        x.move(1, 100);
        undone(x, "move", 52, x.booking(1, 1), 100);
        due("undo move", x.booking(1, 1), 40);
        change(x, 53);
        x.cancel(1);
        undone(x, "cancel", 53, x.booking(1, 5), 10);
        due("undo cancel", x.booking(1, 3), 0);
        due("undo cancel", x.booking(1, 5), 20);
        change(x, 54);
        x.merge(0, 1);
        undone(x, "merge", 54, x.booking(1, 2), 4);
        due("undo merge", x.booking(0, 2), 2);
        due("undo merge", x.booking(1, 4), 20);
        change(x, 55);
        x.play(0, 1, 1, 1);
        undone(x, "play", 55, x.room(0, 5), 1);
        due("undo play", x.room(0, 5), 0);
        due("undo play", x.booking(0, 8), NONE);
        change(x, 56);
        x.addRoom(20, 0, 1, 2);
        undone(x, "addRoom", 56, x.count(0), 2);
        due("undo addRoom", x.count(0), 1);
        change(x, 57);
        x.sellVoucher(7);
        undone(x, "sellVoucher", 57, x.count(2), 1);
        due("undo sellVoucher", x.money(0), 40);
        change(x, 58);
        x.book(0, 200, 2, -1);
        undone(x, "book", 58, x.count(1), 3);
        change(x, 59);
        x.take(1);
        undone(x, "take", 59, x.count(3), 1);
        due("undo take", x.restore(1), ILLEGAL);
        x.take(1);
        change(x, 60);
        x.restore(1);
        undone(x, "restore", 60, x.room(0, 2), 59);
        due("undo restore", x.count(3), 1);
        change(x, 61);
        due("undo run", runText(x, "gift 5; drop 0;"), 2);
        undone(x, "run", 61, x.count(2), 1);
        due("undo run", x.booking(0, 3), 0);
    }

    private static void append() {
        TeamRooms x = new TeamRooms();
        due("append 0", x.append(0), INVALID);
        due("append 256", x.append(256), INVALID);
        due("append -1", x.append(-1), INVALID);
        due("append wild", x.append(MAX), INVALID);
        due("append 1", x.append(1), 1);
        due("append 255", x.append(255), 2);
        for (int at = 2; at < 140; at++) {
            due("append", x.append(' '), at + 1);
        }
        due("append wrong ahead of full", x.append(256), INVALID);
        due("append full", x.append(' '), FULL);
        due("append length", x.count(5), 140);
        due("append is no action", x.count(4), 0);
    }

    private static void clearText() {
        TeamRooms x = new TeamRooms();
        x.sellVoucher(5);
        due("clear nothing", x.clearText(), 0);
        x.append('a');
        x.append('b');
        due("clear", x.clearText(), 2);
        due("clear again", x.clearText(), 0);
        due("clear: length", x.count(5), 0);
        due("clear is no action", x.count(4), 1);
        due("clear: append", x.append('c'), 1);
        due("clear: the rest of the text is gone", x.run(), -1000);
        due("clear: vouchers stay", x.count(2), 1);
    }

    private static void run() {
        TeamRooms x = new TeamRooms();
        due("run nothing", x.run(), 0);
        due("run nothing is an action", x.count(4), 1);
        due("run spaces", runText(x, "    "), 0);
        due("run spaces is an action", x.count(4), 2);
        due("run empties the text", x.count(5), 0);
        due("run room", runText(x, "room 30 10 10 6;"), 1);
        due("run room: length", x.room(0, 0), 30);
        due("run room: reset", x.room(0, 1), 10);
        due("run room: price", x.room(0, 2), 10);
        due("run room: players", x.room(0, 3), 6);
        due("run gift", runText(x, "gift 45;"), 1);
        due("run gift: value", x.voucher(0, 0), 45);
        due("run book", runText(x, "book 0 100 5;"), 1);
        due("run book: cash", x.booking(0, 5), 50);
        due("run book: time", x.booking(0, 1), 100);
        due("run pay", runText(x, "pay 0 140 4 0;"), 1);
        due("run pay: voucher", x.booking(1, 6), 40);
        due("run play", runText(x, "play 0 15 2 1;"), 1);
        due("run play: minutes", x.booking(0, 9), 19);
        due("run play: free", x.room(0, 4), 134);
        due("run: books and drops", runText(x, "book 0 200 2;drop 2;"), 2);
        due("run: dropped", x.booking(2, 3), 2);
        due("run: joins", runText(x, "book 0 200 2 ; join 3 1 ; "), 2);
        due("run: joined", x.booking(1, 2), 6);
        due("run: joined", x.booking(3, 3), 3);
        due("run: history", x.count(4), 5);
        StringBuilder all = new StringBuilder();
        for (int at = 0; at < 8; at++) {
            all.append("gift 1;");
        }
        TeamRooms y = new TeamRooms();
        due("run eight", runText(y, all.toString()), 8);
        due("run eight is one action", y.count(4), 1);
        due("run eight: undo", y.undo(), 0);
        due("run eight: undone", y.count(2), 0);
    }

    private static void runTokens() {
        TeamRooms x = new TeamRooms();
        due("tokens without spaces", runText(x, "room30 5 9 4;gift20;"), 2);
        due("tokens with many spaces", runText(x, "  gift   20  ;  "), 1);
        due("tokens run together", runText(x, "giftgift 20;"), -1000);
        due("digits run together", runText(x, "book 0100 2;"), -1005);
        due("capitals", runText(x, "Gift 20;"), -1000);
        due("capital inside", runText(x, "giFt 20;"), -1000);
        due("number 0", runText(x, "book 0 0 2;"), 1);
        due("number of 4 digits is read", runText(x, "gift 9999;"), -1000);
        due("number of 5 digits is none", runText(x, " gift 10000;"), -1006);
        due("number 00 is none", runText(x, "gift 00;"), -1005);
        due("number 020 is none", runText(x, "gift 020;"), -1005);
        due("sign", runText(x, "gift -5;"), -1005);
        due("tabulator is no space", runText(x, "gift\t5;"), -1004);
        due("character 255", runText(x, "gift 5;" + (char) 255), -1007);
        due("character 1", runText(x, (char) 1 + "gift 5;"), -1000);
        due("character before a", runText(x, "`gift 5;"), -1000);
        due("character behind z", runText(x, "gift{5;"), -1004);
        due("character before 0", runText(x, "gift 5/;"), -1006);
        due("character behind 9", runText(x, "gift 5:;"), -1006);
        due("tokens: nothing was kept", x.count(2), 2);
        due("letters a and z", runText(x, "az 5;"), -1000);
        StringBuilder full = new StringBuilder("gift 5;");
        while (full.length() < 140) {
            full.append(' ');
        }
        due("text of 140", runText(x, full.toString()), 1);
        full.setCharAt(139, ';');
        due("text of 140", runText(x, full.toString()), -1139);
        full.setCharAt(139, ' ');
        full.setCharAt(6, ' ');
        due("text of 140 without an end", runText(x, full.toString()), -1140);
    }

    private static void runFailures() {
        TeamRooms x = oneRoom();
        due("unknown word", runText(x, "  rooms 1;"), -1002);
        due("prefix of a word", runText(x, "roo 1;"), -1000);
        for (String word : new String[] {"xoom 20 0 1 2;", "look 0 0 2;", "lift 5;", "clay 0 1 1 1;", "coin 0 0;"}) {
            due("like a word", runText(x, word), -1000);
        }
        due("number where a word stands", runText(x, "5;"), -1000);
        due("empty command", runText(x, ";"), -1000);
        due("empty command behind another", runText(x, "gift 5;;"), -1007);
        due("word where a number stands", runText(x, "gift x;"), -1005);
        due("too few numbers", runText(x, "book 0 0;"), -1008);
        due("too many numbers", runText(x, "book 0 0 2 1;"), -1011);
        due("no end", runText(x, "gift 5"), -1006);
        due("no end, spaces", runText(x, "gift 5  "), -1008);
        due("only a word", runText(x, "gift"), -1004);
        due("only a word, space", runText(x, "gift "), -1005);
        due("two words", runText(x, "drop join 0;"), -1005);
        due("pay wants four", runText(x, "pay 0 0 2;"), -1009);
        due("play wants four", runText(x, "play 0 1 2;"), -1010);
        due("room wants four", runText(x, "room 30 0 9;"), -1011);
        due("drop wants one", runText(x, "drop 0 0;"), -1007);
        due("join wants two", runText(x, "join 0;"), -1006);
        due("gift wants one", runText(x, "gift 1 1;"), -1007);
        due("failures keep the text", x.count(5), 9);
        due("failures are no actions", x.count(4), 1);
        due("failures change nothing", x.count(1) + x.count(2) + x.money(0), 0);
        due("failing again", x.run(), -1007);
    }

    private static void runErrors() {
        TeamRooms x = oneRoom();
        x.sellVoucher(30);
        due("wrong argument", runText(x, "gift 5; gift 501;"), -1008);
        due("nothing stays", x.count(2), 1);
        due("nothing stays", x.money(0), 30);
        due("illegal", runText(x, "book 0 0 2; book 0 39 2;"), -1012);
        due("nothing stays", x.count(1), 0);
        due("error ahead of a later token", runText(x, "gift 0; ?"), -1000);
        due("token behind a command that was run", runText(x, "gift 5; ?"), -1008);
        due("nothing stays", x.count(2), 1);
        due("token ahead of the error of its command", runText(x, "gift 0 ?"), -1007);
        due("capacity", runText(x, "room 20 0 1 2;room 20 0 1 2;room 20 0 1 2; room 20 0 1 2;"), -1043);
        due("nothing stays", x.count(0), 1);
        due("pay by a missing voucher", runText(x, "pay 0 0 2 1;"), -1000);
        due("later commands see earlier ones", runText(x, "gift 9;pay 0 0 2 1;drop 0;book 0 0 2;"), 4);
        due("later commands see earlier ones", x.booking(0, 3), 2);
        due("history", x.count(4), 3);
        due("settled", x.undo(), 2);
        due("settled", x.count(2), 1);
        due("failure after undo", runText(x, "gift 9;drop 0;"), -1007);
        due("history stays", x.count(4), 2);
        due("undo goes behind the failure", x.undo(), 1);
        due("undo goes behind the failure", x.count(2), 0);
        x.take(0);
        runText(x, "gift 9;x");
        due("snapshots stay", x.count(3), 1);
    }

    private static void count() {
        TeamRooms x = oneRoom();
        x.addRoom(20, 0, 1, 8);
        x.sellVoucher(3);
        x.book(0, 0, 2, -1);
        x.book(0, 40, 2, -1);
        x.book(0, 80, 2, -1);
        x.book(0, 120, 2, -1);
        x.book(0, 160, 2, -1);
        x.book(0, 200, 2, -1);
        x.book(1, 0, 2, -1);
        x.play(0, 1, 1, 1);
        x.cancel(1);
        x.cancel(2);
        x.merge(3, 4);
        x.take(1);
        x.append('q');
        x.append('q');
        x.append('q');
        int[] numbers = {2, 7, 1, 1, 5, 3, 2, 10, 5, 15, 20, 3, 1, 2, 1};
        for (int what = 0; what < numbers.length; what++) {
            due("count " + what, x.count(what), numbers[what]);
        }
        due("count -1", x.count(-1), INVALID);
        due("count 15", x.count(15), INVALID);
        due("count wild", x.count(MIN), INVALID);
        due("count wild", x.count(MAX), INVALID);
    }

    private static void room() {
        TeamRooms x = oneRoom();
        x.addRoom(20, 0, 1, 8);
        x.book(0, 0, 2, -1);
        x.book(0, 100, 2, -1);
        x.book(0, 60, 2, -1);
        x.book(1, 9, 2, -1);
        x.play(0, 30, 20, 9);
        int[] numbers = {30, 10, 10, 6, 95, 1, 0, 20, 40, 0, 1, 2};
        for (int what = 0; what < numbers.length; what++) {
            due("room " + what, x.room(0, what), numbers[what]);
        }
        due("room 1: next", x.room(1, 11), 3);
        x.play(2, 30, 0, 0);
        due("room: delay", x.room(0, 9), 35);
        due("room: solved", x.room(0, 6), 1);
        due("room: next", x.room(0, 11), 1);
        x.play(1, 30, 0, 0);
        due("room: none is next", x.room(0, 11), NONE);
        due("room: delay", x.room(0, 9), 35);
        due("room: plays", x.room(0, 5), 3);
        due("room -1", x.room(-1, 0), INVALID);
        due("room 2", x.room(2, 0), INVALID);
        due("room what", x.room(0, -1), INVALID);
        due("room what", x.room(0, 12), INVALID);
        due("room wild", x.room(MAX, MIN), INVALID);
    }

    private static void booking() {
        TeamRooms x = oneRoom();
        x.sellVoucher(25);
        x.sellVoucher(4);
        x.book(0, 5, 3, 0);
        x.book(0, 45, 3, 1);
        int[] booked = {0, 5, 3, 0, 30, 5, 25, 0, NONE, NONE, 1};
        for (int what = 0; what < booked.length; what++) {
            due("booking " + what, x.booking(0, what), booked[what]);
        }
        x.play(0, 30, 20, 9);
        int[] played = {0, 5, 3, 1, 30, 5, 25, 0, 5, 40, 1};
        for (int what = 0; what < played.length; what++) {
            due("booking played " + what, x.booking(0, what), played[what]);
        }
        x.play(1, 20, 0, 0);
        // 55 minutes of delay, 40 over the patience: 80 percent of 30.
        int[] delayed = {0, 45, 3, 1, 30, 2, 4, 24, 100, 20, 1};
        for (int what = 0; what < delayed.length; what++) {
            due("booking delayed " + what, x.booking(1, what), delayed[what]);
        }
        due("booking -1", x.booking(-1, 0), INVALID);
        due("booking 2", x.booking(2, 0), INVALID);
        due("booking what", x.booking(0, -1), INVALID);
        due("booking what", x.booking(0, 11), INVALID);
        due("booking wild", x.booking(MIN, MAX), INVALID);
    }

    private static void voucher() {
        TeamRooms x = oneRoom();
        x.sellVoucher(45);
        x.sellVoucher(7);
        due("voucher unused", x.voucher(0, 2), 0);
        x.book(0, 0, 2, 0);
        x.book(0, 40, 2, 0);
        x.book(0, 80, 2, 0);
        x.book(0, 120, 2, 0);
        due("voucher value", x.voucher(0, 0), 45);
        due("voucher balance", x.voucher(0, 1), 0);
        due("voucher bookings", x.voucher(0, 2), 3);
        due("voucher of the other", x.voucher(1, 1), 7);
        due("voucher of the other", x.voucher(1, 2), 0);
        x.cancel(0);
        due("voucher half back", x.voucher(0, 1), 10);
        due("voucher bookings", x.voucher(0, 2), 3);
        x.merge(1, 2);
        due("voucher bookings merged", x.voucher(0, 2), 2);
        x.cancel(2);
        due("voucher back: 15 in cash, 5 on it", x.voucher(0, 1), 15);
        due("voucher bookings: the last payment is left", x.voucher(0, 2), 2);
        due("voucher -1", x.voucher(-1, 0), INVALID);
        due("voucher 2", x.voucher(2, 0), INVALID);
        due("voucher what", x.voucher(0, -1), INVALID);
        due("voucher what", x.voucher(0, 3), INVALID);
        due("voucher wild", x.voucher(MAX, MIN), INVALID);
        TeamRooms z = tightRoom(0);
        z.sellVoucher(1);
        z.book(0, 0, 2, 0);
        due("voucher of 1", z.booking(0, 5), 19);
        due("voucher of 1", z.booking(0, 10), 1);
        due("voucher of 1", z.voucher(0, 2), 1);
        z.sellVoucher(19);
        z.book(0, 20, 2, 1);
        z.merge(0, 1);
        due("voucher of 1: cash 20 of 40", z.cancel(1), 20);
        due("voucher of 1: kept", z.voucher(0, 1), 0);
        z.setPrice(0, 3);
        z.sellVoucher(5);
        z.book(0, 40, 2, 2);
        due("a half of 6 is 1 in cash, 2 on it", z.cancel(2), 3);
        due("a half of 6 is 1 in cash, 2 on it", z.voucher(2, 1), 2);
        z.sellVoucher(4);
        z.book(0, 40, 2, 3);
        due("a half of 6 is 2 in cash, 1 on it", z.cancel(3), 3);
        due("a half of 6 is 2 in cash, 1 on it", z.voucher(3, 1), 1);
        TeamRooms y = tightRoom(1);
        y.sellVoucher(30);
        y.book(0, 20, 2, 0);
        y.set(1, 16);
        y.play(0, 20, 20, 0);
        y.cancel(1);
        due("voucher all back", y.voucher(0, 1), 30);
        due("voucher of no booking now", y.voucher(0, 2), 0);
        due("payments of the booking", y.booking(1, 10), 0);
        due("voucher: used again", y.book(0, 20, 2, 0), 2);
        due("voucher: used again", y.voucher(0, 1), 10);
    }

    private static void money() {
        TeamRooms x = oneRoom();
        x.sellVoucher(25);
        x.sellVoucher(100);
        x.book(0, 0, 3, 0);
        x.book(0, 40, 4, 1);
        x.book(0, 80, 2, -1);
        int[] amounts = {150, 60, 90, 0, 25, 65, 125};
        for (int what = 0; what < amounts.length; what++) {
            due("money " + what, x.money(what), amounts[what]);
        }
        x.cancel(0);
        x.cancel(1);
        int[] later = {145, 90, 90, 35, 20, 35, 125};
        for (int what = 0; what < later.length; what++) {
            due("money later " + what, x.money(what), later[what]);
        }
        due("money -1", x.money(-1), INVALID);
        due("money 7", x.money(7), INVALID);
        due("money wild", x.money(MIN), INVALID);
    }

    private static void forecast() {
        TeamRooms x = oneRoom();
        x.addRoom(20, 0, 1, 8);
        x.book(0, 0, 2, -1);
        x.book(0, 85, 4, -1);
        x.book(0, 40, 2, -1);
        x.book(0, 300, 2, -1);
        x.book(1, 40, 2, -1);
        due("forecast on time", x.forecast(1, 0), 85);
        due("forecast on time", x.forecast(1, 1), 0);
        x.play(0, 30, 20, 9);
        due("forecast start", x.forecast(2, 0), 95);
        due("forecast delay", x.forecast(2, 1), 55);
        due("forecast refund", x.forecast(2, 2), 16);
        due("forecast start", x.forecast(1, 0), 135);
        due("forecast delay", x.forecast(1, 1), 50);
        due("forecast refund", x.forecast(1, 2), 32);
        due("forecast behind a gap", x.forecast(3, 0), 300);
        due("forecast behind a gap", x.forecast(3, 1), 0);
        due("forecast behind a gap", x.forecast(3, 2), 0);
        due("forecast of another room", x.forecast(4, 0), 40);
        due("forecast played", x.forecast(0, 0), NONE);
        due("forecast played, what", x.forecast(0, 3), INVALID);
        x.cancel(2);
        due("forecast cancelled", x.forecast(2, 1), NONE);
        due("forecast without it", x.forecast(1, 1), 10);
        due("forecast: merge", x.merge(1, 3), 6);
        due("forecast merged", x.forecast(1, 2), NONE);
        due("forecast -1", x.forecast(-1, 0), INVALID);
        due("forecast 5", x.forecast(5, 0), INVALID);
        due("forecast what", x.forecast(3, -1), INVALID);
        due("forecast what", x.forecast(3, 3), INVALID);
        due("forecast wild", x.forecast(MAX, MIN), INVALID);
    }

    private static void freeTime() {
        TeamRooms x = oneRoom();
        due("free at once", x.freeTime(0, 0), 0);
        due("free at the end", x.freeTime(0, 720), 720);
        x.book(0, 30, 2, -1);
        due("free behind", x.freeTime(0, 0), 70);
        x.book(0, 120, 2, -1);
        due("free between", x.freeTime(0, 0), 70);
        due("free between", x.freeTime(0, 80), 80);
        due("free no more", x.freeTime(0, 81), 160);
        x.cancel(0);
        due("free of a cancelled one", x.freeTime(0, 5), 5);
        x.book(0, 60, 2, -1);
        x.play(2, 0, 0, 0);
        due("free behind a played one", x.freeTime(0, 0), 160);
        x.book(0, 700, 2, -1);
        due("free ahead of the last", x.freeTime(0, 660), 660);
        due("free none", x.freeTime(0, 661), NONE);
        x.move(3, 680);
        due("free at the very end", x.freeTime(0, 661), 720);
        x.addRoom(20, 0, 1, 2);
        due("free of the other room", x.freeTime(1, 661), 661);
        due("free -1", x.freeTime(-1, 0), INVALID);
        due("free 2", x.freeTime(2, 0), INVALID);
        due("free from", x.freeTime(0, -1), INVALID);
        due("free from", x.freeTime(0, 721), INVALID);
        due("free wild", x.freeTime(MIN, MAX), INVALID);
        TeamRooms y = tightRoom(16);
        due("free with 16 bookings", y.freeTime(0, 0), 320);
        due("free with 16 bookings", y.freeTime(0, 321), 321);
        TeamRooms z = oneRoom();
        z.book(0, 720, 2, -1);
        z.play(0, 0, 0, 0);
        due("free never behind the last", z.freeTime(0, 0), NONE);
        TeamRooms w = oneRoom();
        w.book(0, 60, 2, -1);
        w.book(0, 300, 2, -1);
        w.play(0, 0, 0, 0);
        w.book(0, 100, 2, -1);
        w.move(2, 500);
        w.merge(2, 1);
        due("free of a merged one", w.freeTime(0, 490), 490);
    }

    private static void mergeable() {
        TeamRooms x = oneRoom();
        x.addRoom(20, 0, 10, 8);
        due("mergeable none", x.mergeable(0, 0), NONE);
        x.book(0, 0, 2, -1);
        due("mergeable one", x.mergeable(0, 2), NONE);
        x.book(0, 40, 5, -1);
        due("mergeable too many", x.mergeable(0, 1), NONE);
        x.book(0, 80, 3, -1);
        x.book(0, 120, 2, -1);
        x.book(1, 0, 4, -1);
        due("mergeable one", x.mergeable(0, 0), 0);
        due("mergeable other", x.mergeable(0, 1), 2);
        due("mergeable players", x.mergeable(0, 2), 5);
        x.book(0, 160, 4, -1);
        due("mergeable most", x.mergeable(0, 0), 0);
        due("mergeable most", x.mergeable(0, 1), 5);
        due("mergeable most", x.mergeable(0, 2), 6);
        x.book(0, 200, 4, -1);
        due("mergeable: the smallest other one", x.mergeable(0, 1), 5);
        x.play(0, 0, 0, 0);
        due("mergeable: none of the played", x.mergeable(0, 0), 3);
        due("mergeable: none of the played", x.mergeable(0, 1), 5);
        x.cancel(5);
        due("mergeable: none of the cancelled", x.mergeable(0, 1), 6);
        x.merge(3, 6);
        due("mergeable: none of the merged", x.mergeable(0, 0), NONE);
        due("mergeable in another room", x.mergeable(1, 0), NONE);
        x.book(1, 20, 4, -1);
        due("mergeable in another room", x.mergeable(1, 0), 4);
        due("mergeable in another room", x.mergeable(1, 1), 7);
        due("mergeable in another room", x.mergeable(1, 2), 8);
        TeamRooms y = tightRoom(2);
        due("mergeable neighbours", y.mergeable(0, 0), 0);
        due("mergeable neighbours", y.mergeable(0, 1), 1);
        due("mergeable -1", x.mergeable(-1, 0), INVALID);
        due("mergeable 2", x.mergeable(2, 0), INVALID);
        due("mergeable what", x.mergeable(0, -1), INVALID);
        due("mergeable what", x.mergeable(0, 3), INVALID);
        due("mergeable wild", x.mergeable(MAX, MIN), INVALID);
    }

    private static void slack() {
        TeamRooms x = oneRoom();
        due("slack none", x.slack(0), NONE);
        x.book(0, 100, 2, -1);
        due("slack alone", x.slack(0), 115);
        x.book(0, 700, 2, -1);
        due("slack of the first", x.slack(0), 115);
        x.book(0, 50, 2, -1);
        due("slack of the first", x.slack(0), 65);
        x.book(0, 0, 2, -1);
        due("slack of the first", x.slack(0), 15);
        x.play(3, 30, 12, 0);
        due("slack: free", x.room(0, 4), 50);
        due("slack of the second", x.slack(0), 15);
        x.set(3, 0);
        due("slack 0", x.slack(0), 0);
        x.move(2, 51);
        due("slack 1", x.slack(0), 1);
        x.move(2, 46);
        due("slack: there is one", x.slack(0), NONE);
        x.set(3, 4);
        due("slack just", x.slack(0), 0);
        x.set(3, 3);
        due("slack none", x.slack(0), NONE);
        x.cancel(0);
        x.cancel(1);
        x.cancel(2);
        due("slack: none is booked", x.slack(0), NONE);
        TeamRooms y = oneRoom();
        y.set(3, 60);
        y.book(0, 720, 2, -1);
        due("slack most", y.slack(0), 780);
        y.addRoom(20, 0, 1, 2);
        due("slack of the other room", y.slack(1), NONE);
        due("slack -1", y.slack(-1), INVALID);
        due("slack 2", y.slack(2), INVALID);
        due("slack wild", y.slack(MIN), INVALID);
        TeamRooms z = oneRoom();
        z.book(0, 0, 2, -1);
        z.book(0, 70, 2, -1);
        z.book(0, 110, 2, -1);
        z.book(0, 155, 2, -1);
        z.play(0, 0, 0, 9);
        // It is free at 85: 70, 110 and 155 start at 85, 125 and 165.
        due("slack: delays", z.forecast(1, 1), 15);
        due("slack: delays", z.forecast(3, 1), 10);
        due("slack 0", z.slack(0), 0);
    }

    private static void hintsFor() {
        TeamRooms x = oneRoom();
        x.book(0, 0, 2, -1);
        due("hints 1", x.hintsFor(0, 1), 19);
        due("hints 30", x.hintsFor(0, 30), 5);
        due("hints 29", x.hintsFor(0, 29), 5);
        due("hints 28", x.hintsFor(0, 28), 6);
        x.set(1, 30);
        due("hints most", x.hintsFor(0, 1), 20);
        due("hints most", x.hintsFor(0, 20), 20);
        due("hints less", x.hintsFor(0, 21), 19);
        x.set(0, 10);
        due("hints dear", x.hintsFor(0, 30), 3);
        x.set(1, 9);
        due("hints 0", x.hintsFor(0, 30), 0);
        x.set(0, 1);
        due("hints cheap", x.hintsFor(0, 30), 9);
        due("hints cheap", x.hintsFor(0, 19), 20);
        x.set(0, 0);
        due("hints free", x.hintsFor(0, 30), 20);
        due("hints 0", x.hintsFor(0, 0), INVALID);
        due("hints 31", x.hintsFor(0, 31), INVALID);
        due("hints -1", x.hintsFor(-1, 1), INVALID);
        due("hints none", x.hintsFor(1, 1), INVALID);
        due("hints wild", x.hintsFor(MAX, MIN), INVALID);
        x.play(0, 30, 20, 0);
        due("hints played", x.hintsFor(0, 1), ILLEGAL);
        due("hints played, wrong", x.hintsFor(0, 31), INVALID);
        x.book(0, 100, 2, -1);
        x.book(0, 200, 2, -1);
        x.merge(1, 2);
        due("hints merged", x.hintsFor(1, 1), ILLEGAL);
        x.cancel(2);
        due("hints cancelled", x.hintsFor(2, 1), ILLEGAL);
    }

    private static void busiest() {
        TeamRooms x = new TeamRooms();
        due("busiest none", x.busiest(0), NONE);
        due("busiest -1", x.busiest(-1), INVALID);
        for (int room = 0; room < 4; room++) {
            x.addRoom(40, 0, 1, 2);
            x.book(room, 0, 2, -1);
            x.book(room, 100, 2, -1);
        }
        for (int room = 0; room < 4; room++) {
            due("busiest of the same", x.busiest(room), room);
        }
        x.play(4, 10, 0, 0);
        x.play(2, 30, 0, 0);
        x.play(6, 10, 0, 0);
        int[] order = {1, 2, 3, 0};
        for (int place = 0; place < 4; place++) {
            due("busiest " + place, x.busiest(place), order[place]);
        }
        x.play(5, 21, 0, 0);
        due("busiest by all minutes", x.busiest(0), 2);
        due("busiest by all minutes", x.busiest(1), 1);
        due("busiest 4", x.busiest(4), NONE);
        due("busiest wild", x.busiest(MAX), NONE);
        due("busiest wild", x.busiest(MIN), INVALID);
    }
}
