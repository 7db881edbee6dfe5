/** A venue with escape rooms; ../shared/DOC.md tells what each call answers. */
public final class TeamRooms {
    public static final int INVALID_ARGUMENT = -1;
    public static final int ILLEGAL_STATE = -2;
    public static final int CAPACITY_EXCEEDED = -3;
    public static final int NONE = -9;

    private static final int MOST_ROOMS = 4;
    private static final int MOST_BOOKINGS = 16;
    private static final int MOST_VOUCHERS = 8;
    private static final int MOST_STATES = 5;
    private static final int MOST_CHARACTERS = 140;
    private static final int LAST_TIME = 720;
    private static final int MOST_HINTS = 20;
    private static final int MOST_WRECKAGE = 9;
    private static final int MOST_SLACK = 999;
    private static final int FAILURE = -1000;

    // The columns of rooms, bookings and vouchers have the numbers by which the face asks for them.
    private static final int ROOM_LENGTH = 0;
    private static final int ROOM_RESET = 1;
    private static final int ROOM_PRICE = 2;
    private static final int ROOM_PLAYERS = 3;
    private static final int ROOM_FREE = 4;
    private static final int ROOM_PLAYS = 5;
    private static final int ROOM_SOLVED = 6;
    private static final int ROOM_HINTS = 7;
    private static final int ROOM_MINUTES = 8;
    private static final int ROOM_DELAY = 9;
    private static final int ROOM_OVERRUNS = 10;
    private static final int ROOM_COLUMNS = 11;
    private static final int ROOM_NEXT = 11;

    private static final int BOOKING_ROOM = 0;
    private static final int BOOKING_TIME = 1;
    private static final int BOOKING_PLAYERS = 2;
    private static final int BOOKING_STATE = 3;
    private static final int BOOKING_CHARGE = 4;
    private static final int BOOKING_CASH = 5;
    // No column is kept under this number: the payments have it.
    private static final int BOOKING_BY_VOUCHERS = 6;
    private static final int BOOKING_REFUNDED = 7;
    private static final int BOOKING_START = 8;
    private static final int BOOKING_MINUTES = 9;
    private static final int BOOKING_COLUMNS = 10;
    private static final int BOOKING_PAYMENTS = 10;

    private static final int VOUCHER_VALUE = 0;
    private static final int VOUCHER_BALANCE = 1;
    private static final int VOUCHER_COLUMNS = 2;
    private static final int VOUCHER_BOOKINGS = 2;

    private static final int PAYMENT_BOOKING = 0;
    private static final int PAYMENT_VOUCHER = 1;
    private static final int PAYMENT_AMOUNT = 2;
    // Where the payment stands in the row of its booking.
    private static final int PAYMENT_PLACE = 3;
    private static final int PAYMENT_COLUMNS = 4;

    private static final int BOOKED = 0;
    private static final int PLAYED = 1;
    private static final int CANCELLED = 2;
    private static final int MERGED = 3;

    private static final int HINT_COST = 0;
    private static final int GRACE = 1;
    private static final int WRECKAGE_COST = 2;
    private static final int PATIENCE = 3;
    private static final int PERCENTAGE = 4;
    private static final int[] FIRST_SETTINGS = {2, 10, 5, 15, 20};
    private static final int[] MOST_SETTINGS = {10, 30, 20, 60, 50};

    private static final int COMMAND_ROOM = 0;
    private static final int COMMAND_GIFT = 1;
    private static final int COMMAND_BOOK = 2;
    private static final int COMMAND_PAY = 3;
    private static final int COMMAND_PLAY = 4;
    private static final int COMMAND_DROP = 5;
    private static final int COMMAND_JOIN = 6;
    private static final int NO_COMMAND = -1;
    private static final int[] COMMAND_NUMBERS = {4, 1, 3, 4, 4, 1, 2};
    private static final int MOST_NUMBERS = 4;
    private static final int MOST_DIGITS = 4;

    private static final int TOKEN_END = 0;
    private static final int TOKEN_LETTERS = 1;
    private static final int TOKEN_DIGITS = 2;
    private static final int TOKEN_SIGN = 3;

    private final State now;
    private final Venue venue;
    private final Desk desk;
    private final Outlook outlook;
    private final History history;
    private final Program program;

    public TeamRooms() {
        now = new State();
        venue = now.venue;
        desk = new Desk(venue);
        outlook = new Outlook(venue);
        history = new History();
        program = new Program();
    }

    // ---- rooms and settings

    public int addRoom(int length, int reset, int price, int players) {
        history.prepare(now);
        return history.settle(desk.newRoom(length, reset, price, players));
    }

    public int setPrice(int room, int price) {
        history.prepare(now);
        return history.settle(desk.changePrice(room, price));
    }

    public int set(int what, int value) {
        history.prepare(now);
        return history.settle(desk.changeSetting(what, value));
    }

    // ---- bookings and vouchers

    public int sellVoucher(int value) {
        history.prepare(now);
        return history.settle(desk.newVoucher(value));
    }

    public int book(int room, int time, int players, int voucher) {
        history.prepare(now);
        return history.settle(desk.newBooking(room, time, players, voucher));
    }

    public int move(int booking, int time) {
        history.prepare(now);
        return history.settle(desk.changeTime(booking, time));
    }

    public int cancel(int booking) {
        history.prepare(now);
        return history.settle(desk.callOff(booking));
    }

    public int merge(int one, int other) {
        history.prepare(now);
        return history.settle(desk.joinTeams(one, other));
    }

    public int play(int booking, int goal, int hints, int wreckage) {
        history.prepare(now);
        return history.settle(desk.letPlay(booking, goal, hints, wreckage));
    }

    // ---- snapshots

    public int take(int slot) {
        if (!inRange(slot, 0, 1)) {
            return INVALID_ARGUMENT;
        }
        history.prepare(now);
        now.slotOf(slot).keep(venue);
        return history.settle(venue.till);
    }

    public int restore(int slot) {
        if (!inRange(slot, 0, 1)) {
            return INVALID_ARGUMENT;
        }
        Slot snapshot = now.slotOf(slot);
        if (!snapshot.taken) {
            return ILLEGAL_STATE;
        }
        history.prepare(now);
        venue.copyFrom(snapshot.kept);
        return history.settle(venue.till);
    }

    public int undo() {
        return history.stepBack(now);
    }

    // ---- programs

    public int append(int character) {
        return program.add(character);
    }

    public int clearText() {
        return program.empty();
    }

    public int run() {
        history.prepare(now);
        int answer = program.perform(desk);
        if (answer < 0) {
            history.giveBack(now);
            return answer;
        }
        program.empty();
        return history.settle(answer);
    }

    // ---- looking

    public int count(int what) {
        if (inRange(what, 6, 10)) {
            return venue.setting(what - 6);
        }
        if (inRange(what, 11, 14)) {
            return venue.bookingsInState(what - 11);
        }
        switch (what) {
            case 0: return venue.rooms.size();
            case 1: return venue.bookings.size();
            case 2: return venue.vouchers.size();
            case 3: return now.snapshots();
            case 4: return history.size();
            case 5: return program.size();
            default: return INVALID_ARGUMENT;
        }
    }

    public int room(int room, int what) {
        if (!venue.rooms.has(room) || !inRange(what, 0, ROOM_NEXT)) {
            return INVALID_ARGUMENT;
        }
        return what == ROOM_NEXT ? venue.nextBooked(room, -1) : venue.rooms.cell(room, what);
    }

    public int booking(int booking, int what) {
        if (!venue.bookings.has(booking) || !inRange(what, 0, BOOKING_PAYMENTS)) {
            return INVALID_ARGUMENT;
        }
        switch (what) {
            case BOOKING_BY_VOUCHERS: return venue.paidByVouchers(booking);
            case BOOKING_PAYMENTS: return venue.paymentsLeft(booking);
            default: return venue.bookings.cell(booking, what);
        }
    }

    public int voucher(int voucher, int what) {
        if (!venue.vouchers.has(voucher) || !inRange(what, 0, VOUCHER_BOOKINGS)) {
            return INVALID_ARGUMENT;
        }
        return what == VOUCHER_BOOKINGS ? venue.bookingsPaidWith(voucher) : venue.vouchers.cell(voucher, what);
    }

    public int money(int what) {
        switch (what) {
            case 0: return venue.till;
            case 1: return venue.vouchers.total(VOUCHER_BALANCE);
            case 2: return venue.bookings.total(BOOKING_CHARGE);
            case 3: return venue.bookings.total(BOOKING_REFUNDED);
            case 4: return venue.bookings.total(BOOKING_CASH);
            case 5: return venue.payments.total(PAYMENT_AMOUNT);
            case 6: return venue.vouchers.total(VOUCHER_VALUE);
            default: return INVALID_ARGUMENT;
        }
    }

    // ---- forecasts, which change nothing

    public int forecast(int booking, int what) {
        return outlook.partOfForecast(booking, what);
    }

    public int freeTime(int room, int from) {
        return outlook.earliestTime(room, from);
    }

    public int mergeable(int room, int what) {
        return outlook.largestPair(room, what);
    }

    public int slack(int room) {
        return outlook.delayLeft(room);
    }

    public int hintsFor(int booking, int goal) {
        return outlook.hintsLeft(booking, goal);
    }

    public int busiest(int place) {
        return outlook.roomByUse(place);
    }

    private static boolean inRange(int value, int least, int most) {
        return value >= least && value <= most;
    }

    /** Rows of numbers, all of one width; those in use come first. */
    private static final class Table {
        private final int[] cells;
        private final int capacity;
        private final int width;
        private int used;

        Table(int capacity, int width) {
            this.capacity = Math.max(0, capacity);
            this.width = Math.max(0, width);
            int length = this.capacity * this.width;
            cells = new int[length < 0 ? 0 : length];
        }

        int size() {
            return used;
        }

        boolean has(int row) {
            return row >= 0 && row < used;
        }

        boolean isFull() {
            return used >= capacity;
        }

        /** Takes one more row into use, full of zeros, and returns its number, or NONE if all are in use. */
        int addRow() {
            if (isFull()) {
                return NONE;
            }
            int row = used;
            used = row + 1;
            // The cells may have values of a row that undo or restore took away.
            for (int column = 0; column < width; column++) {
                put(row, column, 0);
            }
            return row;
        }

        int cell(int row, int column) {
            int at = row * width + column;
            boolean inside = row >= 0 && row < used && column >= 0 && column < width;
            return inside && at >= 0 && at < cells.length ? cells[at] : 0;
        }

        void put(int row, int column, int value) {
            int at = row * width + column;
            boolean inside = row >= 0 && row < used && column >= 0 && column < width;
            if (inside && at >= 0 && at < cells.length) {
                cells[at] = value;
            }
        }

        void raise(int row, int column, int by) {
            put(row, column, cell(row, column) + by);
        }

        int total(int column) {
            int sum = 0;
            for (int row = 0; row < used; row++) {
                sum += cell(row, column);
            }
            return sum;
        }

        void copyFrom(Table other) {
            int length = Math.min(other.used * other.width, Math.min(other.cells.length, cells.length));
            if (length > 0) {
                System.arraycopy(other.cells, 0, cells, 0, length);
            }
            used = other.used;
        }
    }

    /** All that a snapshot keeps, and what can be read from it. */
    private static final class Venue {
        final Table rooms;
        final Table bookings;
        final Table vouchers;
        final Table payments;
        final Table settings;
        int till;

        Venue() {
            rooms = new Table(MOST_ROOMS, ROOM_COLUMNS);
            bookings = new Table(MOST_BOOKINGS, BOOKING_COLUMNS);
            vouchers = new Table(MOST_VOUCHERS, VOUCHER_COLUMNS);
            // Only book() makes payments, and at most one each time.
            payments = new Table(MOST_BOOKINGS, PAYMENT_COLUMNS);
            settings = new Table(FIRST_SETTINGS.length, 1);
            for (int what = 0; what < FIRST_SETTINGS.length; what++) {
                settings.put(settings.addRow(), 0, FIRST_SETTINGS[what]);
            }
        }

        void copyFrom(Venue other) {
            rooms.copyFrom(other.rooms);
            bookings.copyFrom(other.bookings);
            vouchers.copyFrom(other.vouchers);
            payments.copyFrom(other.payments);
            settings.copyFrom(other.settings);
            till = other.till;
        }

        int setting(int what) {
            return settings.cell(what, 0);
        }

        boolean isBooked(int booking) {
            return bookings.has(booking) && bookings.cell(booking, BOOKING_STATE) == BOOKED;
        }

        int bookingsInState(int state) {
            int found = 0;
            for (int booking = 0; booking < bookings.size(); booking++) {
                if (bookings.cell(booking, BOOKING_STATE) == state) {
                    found++;
                }
            }
            return found;
        }

        /** The minutes that a play of the whole length keeps the room from the next one. */
        int period(int room) {
            return rooms.cell(room, ROOM_LENGTH) + rooms.cell(room, ROOM_RESET);
        }

        /** The first time that is later than those of all played bookings of a room. */
        int timeBehindPlays(int room) {
            int first = 0;
            for (int booking = 0; booking < bookings.size(); booking++) {
                if (bookings.cell(booking, BOOKING_ROOM) == room && bookings.cell(booking, BOOKING_STATE) == PLAYED) {
                    first = Math.max(first, bookings.cell(booking, BOOKING_TIME) + 1);
                }
            }
            return first;
        }

        /** A booking of a room that collides with one at this time, another one than the one left aside. */
        int collision(int room, int time, int leftAside) {
            int period = period(room);
            for (int booking = 0; booking < bookings.size(); booking++) {
                int state = bookings.cell(booking, BOOKING_STATE);
                boolean counts = booking != leftAside && bookings.cell(booking, BOOKING_ROOM) == room
                        && (state == BOOKED || state == PLAYED);
                if (counts && Math.abs(bookings.cell(booking, BOOKING_TIME) - time) < period) {
                    return booking;
                }
            }
            return NONE;
        }

        boolean isPossible(int room, int time, int leftAside) {
            return time >= timeBehindPlays(room) && collision(room, time, leftAside) == NONE;
        }

        /** The booking that is played first of those of a room that are booked for later than a time. */
        int nextBooked(int room, int after) {
            int next = NONE;
            int earliest = 0;
            for (int booking = 0; booking < bookings.size(); booking++) {
                int time = bookings.cell(booking, BOOKING_TIME);
                boolean counts = bookings.cell(booking, BOOKING_STATE) == BOOKED
                        && bookings.cell(booking, BOOKING_ROOM) == room && time > after;
                if (counts && (next == NONE || time < earliest)) {
                    next = booking;
                    earliest = time;
                }
            }
            return next;
        }

        /** When a booking that is booked starts by the forecast of its room. */
        int forecastStart(int wanted) {
            int room = bookings.cell(wanted, BOOKING_ROOM);
            int free = rooms.cell(room, ROOM_FREE);
            int booking = nextBooked(room, -1);
            for (int turn = 0; turn < MOST_BOOKINGS && booking != NONE && booking != wanted; turn++) {
                int time = bookings.cell(booking, BOOKING_TIME);
                free = Math.max(time, free) + period(room);
                booking = nextBooked(room, time);
            }
            return Math.max(bookings.cell(wanted, BOOKING_TIME), free);
        }

        /** What is refunded of the charge of a booking that is played with a delay. */
        int refundForDelay(int booking, int delay) {
            int over = delay - setting(PATIENCE);
            if (over <= 0) {
                return 0;
            }
            int share = Math.min(100, (over + 9) / 10 * setting(PERCENTAGE));
            return bookings.cell(booking, BOOKING_CHARGE) * share / 100;
        }

        int paidByVouchers(int booking) {
            int sum = 0;
            for (int payment = 0; payment < payments.size(); payment++) {
                if (payments.cell(payment, PAYMENT_BOOKING) == booking) {
                    sum += payments.cell(payment, PAYMENT_AMOUNT);
                }
            }
            return sum;
        }

        int paymentsLeft(int booking) {
            int found = 0;
            for (int payment = 0; payment < payments.size(); payment++) {
                if (payments.cell(payment, PAYMENT_BOOKING) == booking && payments.cell(payment, PAYMENT_AMOUNT) > 0) {
                    found++;
                }
            }
            return found;
        }

        int bookingsPaidWith(int voucher) {
            int found = 0;
            for (int booking = 0; booking < bookings.size(); booking++) {
                if (isPaidWith(booking, voucher)) {
                    found++;
                }
            }
            return found;
        }

        private boolean isPaidWith(int booking, int voucher) {
            for (int payment = 0; payment < payments.size(); payment++) {
                if (payments.cell(payment, PAYMENT_BOOKING) == booking
                        && payments.cell(payment, PAYMENT_VOUCHER) == voucher
                        && payments.cell(payment, PAYMENT_AMOUNT) > 0) {
                    return true;
                }
            }
            return false;
        }

        /** The payment at a place of the row of a booking, or NONE. */
        int paymentAt(int booking, int place) {
            for (int payment = 0; payment < payments.size(); payment++) {
                if (payments.cell(payment, PAYMENT_BOOKING) == booking
                        && payments.cell(payment, PAYMENT_PLACE) == place) {
                    return payment;
                }
            }
            return NONE;
        }
    }

    /** The actions on a venue, for the face and for programs alike; those that fail change nothing. */
    private static final class Desk {
        private final Venue venue;
        private final Table rooms;
        private final Table bookings;
        private final Table vouchers;
        private final Table payments;

        Desk(Venue venue) {
            this.venue = venue;
            rooms = venue.rooms;
            bookings = venue.bookings;
            vouchers = venue.vouchers;
            payments = venue.payments;
        }

        int newRoom(int length, int reset, int price, int players) {
            if (!inRange(length, 20, 120) || !inRange(reset, 0, 60) || !inRange(price, 1, 200)
                    || !inRange(players, 2, 8)) {
                return INVALID_ARGUMENT;
            }
            if (rooms.isFull()) {
                return CAPACITY_EXCEEDED;
            }
            int room = rooms.addRow();
            rooms.put(room, ROOM_LENGTH, length);
            rooms.put(room, ROOM_RESET, reset);
            rooms.put(room, ROOM_PRICE, price);
            rooms.put(room, ROOM_PLAYERS, players);
            return room;
        }

        int changePrice(int room, int price) {
            if (!rooms.has(room) || !inRange(price, 1, 200)) {
                return INVALID_ARGUMENT;
            }
            int previous = rooms.cell(room, ROOM_PRICE);
            rooms.put(room, ROOM_PRICE, price);
            return previous;
        }

        int changeSetting(int what, int value) {
            if (what < 0 || what >= MOST_SETTINGS.length || !inRange(value, 0, MOST_SETTINGS[what])) {
                return INVALID_ARGUMENT;
            }
            int previous = venue.setting(what);
            venue.settings.put(what, 0, value);
            return previous;
        }

        int newVoucher(int value) {
            if (!inRange(value, 1, 500)) {
                return INVALID_ARGUMENT;
            }
            if (vouchers.isFull()) {
                return CAPACITY_EXCEEDED;
            }
            int voucher = vouchers.addRow();
            vouchers.put(voucher, VOUCHER_VALUE, value);
            vouchers.put(voucher, VOUCHER_BALANCE, value);
            venue.till += value;
            return voucher;
        }

        int newBooking(int room, int time, int players, int voucher) {
            if (!rooms.has(room) || !inRange(time, 0, LAST_TIME)
                    || !inRange(players, 2, rooms.cell(room, ROOM_PLAYERS))
                    || voucher != -1 && !vouchers.has(voucher)) {
                return INVALID_ARGUMENT;
            }
            if (!venue.isPossible(room, time, NONE)) {
                return ILLEGAL_STATE;
            }
            if (bookings.isFull()) {
                return CAPACITY_EXCEEDED;
            }
            int booking = bookings.addRow();
            bookings.put(booking, BOOKING_ROOM, room);
            bookings.put(booking, BOOKING_TIME, time);
            bookings.put(booking, BOOKING_PLAYERS, players);
            bookings.put(booking, BOOKING_STATE, BOOKED);
            bookings.put(booking, BOOKING_START, NONE);
            bookings.put(booking, BOOKING_MINUTES, NONE);
            payCharge(booking, rooms.cell(room, ROOM_PRICE) * players, voucher);
            return booking;
        }

        private void payCharge(int booking, int charge, int voucher) {
            // Without a voucher there is no such row, and so no balance.
            int amount = Math.min(charge, vouchers.cell(voucher, VOUCHER_BALANCE));
            if (amount > 0) {
                vouchers.raise(voucher, VOUCHER_BALANCE, -amount);
                int payment = payments.addRow();
                payments.put(payment, PAYMENT_BOOKING, booking);
                payments.put(payment, PAYMENT_VOUCHER, voucher);
                payments.put(payment, PAYMENT_AMOUNT, amount);
            }
            bookings.put(booking, BOOKING_CHARGE, charge);
            bookings.put(booking, BOOKING_CASH, charge - amount);
            venue.till += charge - amount;
        }

        int changeTime(int booking, int time) {
            if (!bookings.has(booking) || !inRange(time, 0, LAST_TIME)) {
                return INVALID_ARGUMENT;
            }
            int room = bookings.cell(booking, BOOKING_ROOM);
            if (!venue.isBooked(booking) || !venue.isPossible(room, time, booking)) {
                return ILLEGAL_STATE;
            }
            int previous = bookings.cell(booking, BOOKING_TIME);
            bookings.put(booking, BOOKING_TIME, time);
            return previous;
        }

        int callOff(int booking) {
            if (!bookings.has(booking)) {
                return INVALID_ARGUMENT;
            }
            if (!venue.isBooked(booking)) {
                return ILLEGAL_STATE;
            }
            int delay = venue.forecastStart(booking) - bookings.cell(booking, BOOKING_TIME);
            int paid = bookings.cell(booking, BOOKING_CASH) + venue.paidByVouchers(booking);
            int amount = delay > venue.setting(PATIENCE) ? paid : paid / 2;
            bookings.put(booking, BOOKING_STATE, CANCELLED);
            refund(booking, amount);
            return amount;
        }

        private void refund(int booking, int amount) {
            int cash = Math.min(amount, bookings.cell(booking, BOOKING_CASH));
            bookings.raise(booking, BOOKING_CASH, -cash);
            venue.till -= cash;
            int left = amount - cash;
            for (int place = MOST_BOOKINGS - 1; place >= 0 && left > 0; place--) {
                left -= refundPayment(venue.paymentAt(booking, place), left);
            }
            bookings.raise(booking, BOOKING_REFUNDED, amount - left);
        }

        /** Gives back to its voucher what a payment has of an amount; there may be no such payment. */
        private int refundPayment(int payment, int most) {
            int amount = Math.min(most, payments.cell(payment, PAYMENT_AMOUNT));
            if (amount > 0) {
                payments.raise(payment, PAYMENT_AMOUNT, -amount);
                vouchers.raise(payments.cell(payment, PAYMENT_VOUCHER), VOUCHER_BALANCE, amount);
            }
            return amount;
        }

        int joinTeams(int one, int other) {
            if (!bookings.has(one) || !bookings.has(other) || one == other) {
                return INVALID_ARGUMENT;
            }
            int room = bookings.cell(other, BOOKING_ROOM);
            if (!venue.isBooked(one) || !venue.isBooked(other) || bookings.cell(one, BOOKING_ROOM) != room) {
                return ILLEGAL_STATE;
            }
            int players = bookings.cell(one, BOOKING_PLAYERS) + bookings.cell(other, BOOKING_PLAYERS);
            if (players > rooms.cell(room, ROOM_PLAYERS)) {
                return CAPACITY_EXCEEDED;
            }
            handOver(one, other, BOOKING_PLAYERS);
            handOver(one, other, BOOKING_CHARGE);
            handOver(one, other, BOOKING_CASH);
            handOverPayments(one, other);
            bookings.put(one, BOOKING_STATE, MERGED);
            return players;
        }

        private void handOver(int one, int other, int column) {
            bookings.raise(other, column, bookings.cell(one, column));
            bookings.put(one, column, 0);
        }

        private void handOverPayments(int one, int other) {
            // A booking that is booked has had no refund, so all payments of its row are still greater than 0.
            int ahead = venue.paymentsLeft(other);
            for (int payment = 0; payment < payments.size(); payment++) {
                if (payments.cell(payment, PAYMENT_BOOKING) == one) {
                    payments.put(payment, PAYMENT_BOOKING, other);
                    payments.raise(payment, PAYMENT_PLACE, ahead);
                }
            }
        }

        int letPlay(int booking, int goal, int hints, int wreckage) {
            int room = bookings.cell(booking, BOOKING_ROOM);
            if (!bookings.has(booking) || !inRange(goal, 0, rooms.cell(room, ROOM_LENGTH))
                    || !inRange(hints, 0, MOST_HINTS) || !inRange(wreckage, 0, MOST_WRECKAGE)) {
                return INVALID_ARGUMENT;
            }
            if (!venue.isBooked(booking) || venue.nextBooked(room, -1) != booking) {
                return ILLEGAL_STATE;
            }
            int length = rooms.cell(room, ROOM_LENGTH);
            int limit = length + venue.setting(GRACE);
            int effort = goal + hints * venue.setting(HINT_COST);
            int minutes = goal == 0 ? length : Math.min(effort, limit);
            rooms.raise(room, ROOM_PLAYS, 1);
            rooms.raise(room, ROOM_SOLVED, goal > 0 && effort <= limit ? 1 : 0);
            rooms.raise(room, ROOM_HINTS, hints);
            rooms.raise(room, ROOM_MINUTES, minutes);
            rooms.raise(room, ROOM_OVERRUNS, goal > 0 && effort > length ? 1 : 0);
            int delay = occupy(booking, minutes, wreckage);
            refund(booking, venue.refundForDelay(booking, delay));
            return minutes;
        }

        /** Fills the room with a play, and returns the delay of it. */
        private int occupy(int booking, int minutes, int wreckage) {
            int room = bookings.cell(booking, BOOKING_ROOM);
            int time = bookings.cell(booking, BOOKING_TIME);
            int start = Math.max(time, rooms.cell(room, ROOM_FREE));
            int delay = start - time;
            int cleaning = rooms.cell(room, ROOM_RESET) + wreckage * venue.setting(WRECKAGE_COST);
            rooms.put(room, ROOM_FREE, start + minutes + cleaning);
            rooms.put(room, ROOM_DELAY, Math.max(delay, rooms.cell(room, ROOM_DELAY)));
            bookings.put(booking, BOOKING_STATE, PLAYED);
            bookings.put(booking, BOOKING_START, start);
            bookings.put(booking, BOOKING_MINUTES, minutes);
            return delay;
        }
    }

    /** What a venue tells of the time to come. */
    private static final class Outlook {
        private final Venue venue;
        private final Table rooms;
        private final Table bookings;

        Outlook(Venue venue) {
            this.venue = venue;
            rooms = venue.rooms;
            bookings = venue.bookings;
        }

        int partOfForecast(int booking, int what) {
            if (!bookings.has(booking) || !inRange(what, 0, 2)) {
                return INVALID_ARGUMENT;
            }
            if (!venue.isBooked(booking)) {
                return NONE;
            }
            int start = venue.forecastStart(booking);
            int delay = start - bookings.cell(booking, BOOKING_TIME);
            switch (what) {
                case 0: return start;
                case 1: return delay;
                default: return venue.refundForDelay(booking, delay);
            }
        }

        int earliestTime(int room, int from) {
            if (!rooms.has(room) || !inRange(from, 0, LAST_TIME)) {
                return INVALID_ARGUMENT;
            }
            int time = Math.max(from, venue.timeBehindPlays(room));
            int collision = venue.collision(room, time, NONE);
            // Behind a booking that it collides with, the time collides with this one no more.
            for (int turn = 0; turn < MOST_BOOKINGS && collision != NONE; turn++) {
                time = bookings.cell(collision, BOOKING_TIME) + venue.period(room);
                collision = venue.collision(room, time, NONE);
            }
            return time <= LAST_TIME ? time : NONE;
        }

        int largestPair(int room, int what) {
            if (!rooms.has(room) || !inRange(what, 0, 2)) {
                return INVALID_ARGUMENT;
            }
            int first = NONE;
            int second = NONE;
            int most = NONE;
            for (int one = 0; one < bookings.size(); one++) {
                for (int other = one + 1; other < bookings.size(); other++) {
                    int players = playersTogether(room, one, other);
                    if (players > most) {
                        first = one;
                        second = other;
                        most = players;
                    }
                }
            }
            switch (what) {
                case 0: return first;
                case 1: return second;
                default: return most;
            }
        }

        /** The players of two bookings of a room, or NONE if they can't be merged. */
        private int playersTogether(int room, int one, int other) {
            if (bookings.cell(one, BOOKING_ROOM) != room || bookings.cell(other, BOOKING_ROOM) != room
                    || !venue.isBooked(one) || !venue.isBooked(other)) {
                return NONE;
            }
            int players = bookings.cell(one, BOOKING_PLAYERS) + bookings.cell(other, BOOKING_PLAYERS);
            return players <= rooms.cell(room, ROOM_PLAYERS) ? players : NONE;
        }

        int delayLeft(int room) {
            if (!rooms.has(room)) {
                return INVALID_ARGUMENT;
            }
            int booking = venue.nextBooked(room, -1);
            if (booking == NONE) {
                return NONE;
            }
            // Bookings of a room don't collide, so none of them ever gets more delay than the first one.
            int latest = bookings.cell(booking, BOOKING_TIME) + venue.setting(PATIENCE);
            int minutes = latest - rooms.cell(room, ROOM_FREE);
            return minutes >= 0 ? Math.min(minutes, MOST_SLACK) : NONE;
        }

        int hintsLeft(int booking, int goal) {
            int length = rooms.cell(bookings.cell(booking, BOOKING_ROOM), ROOM_LENGTH);
            if (!bookings.has(booking) || !inRange(goal, 1, length)) {
                return INVALID_ARGUMENT;
            }
            if (!venue.isBooked(booking)) {
                return ILLEGAL_STATE;
            }
            int cost = venue.setting(HINT_COST);
            if (cost <= 0) {
                return MOST_HINTS;
            }
            return Math.min(MOST_HINTS, (length + venue.setting(GRACE) - goal) / cost);
        }

        int roomByUse(int place) {
            if (place < 0) {
                return INVALID_ARGUMENT;
            }
            for (int room = 0; room < rooms.size(); room++) {
                if (roomsAheadOf(room) == place) {
                    return room;
                }
            }
            return NONE;
        }

        private int roomsAheadOf(int room) {
            int minutes = rooms.cell(room, ROOM_MINUTES);
            int ahead = 0;
            for (int other = 0; other < rooms.size(); other++) {
                int others = rooms.cell(other, ROOM_MINUTES);
                if (others > minutes || others == minutes && other < room) {
                    ahead++;
                }
            }
            return ahead;
        }
    }

    /** A place for a snapshot. */
    private static final class Slot {
        final Venue kept;
        boolean taken;

        Slot() {
            kept = new Venue();
        }

        void keep(Venue venue) {
            kept.copyFrom(venue);
            taken = true;
        }

        void copyFrom(Slot other) {
            // What an empty slot holds is never looked at.
            if (other.taken) {
                kept.copyFrom(other.kept);
            }
            taken = other.taken;
        }
    }

    /** All that undo() brings back. */
    private static final class State {
        final Venue venue;
        private final Slot first;
        private final Slot second;

        State() {
            venue = new Venue();
            first = new Slot();
            second = new Slot();
        }

        Slot slotOf(int slot) {
            return slot == 0 ? first : second;
        }

        int snapshots() {
            return (first.taken ? 1 : 0) + (second.taken ? 1 : 0);
        }

        void copyFrom(State other) {
            venue.copyFrom(other.venue);
            first.copyFrom(other.first);
            second.copyFrom(other.second);
        }
    }

    /** The states before the latest actions, and behind them a spare one for the action that may come. */
    private static final class History {
        private final State[] states;
        private int recorded;

        History() {
            states = new State[MOST_STATES + 1];
            for (int at = 0; at < states.length; at++) {
                states[at] = new State();
            }
        }

        int size() {
            return recorded;
        }

        /** Keeps the state in which an action begins, without recording it. */
        void prepare(State now) {
            State spare = stateAt(recorded);
            if (spare != null) {
                spare.copyFrom(now);
            }
        }

        /** Makes all as it was when the action began. */
        void giveBack(State now) {
            State spare = stateAt(recorded);
            if (spare != null) {
                now.copyFrom(spare);
            }
        }

        /** Records the prepared state if the action's answer is no error code, and hands the answer on. */
        int settle(int answer) {
            if (answer >= 0) {
                record();
            }
            return answer;
        }

        int stepBack(State now) {
            if (recorded <= 0) {
                return ILLEGAL_STATE;
            }
            recorded--;
            giveBack(now);
            return recorded;
        }

        private void record() {
            if (recorded < MOST_STATES) {
                recorded++;
                return;
            }
            // The oldest state is dropped: its object serves as the spare one from now on.
            State oldest = stateAt(0);
            for (int at = 1; at < states.length; at++) {
                states[at - 1] = states[at];
            }
            if (states.length > 0) {
                states[states.length - 1] = oldest;
            }
        }

        private State stateAt(int at) {
            return at >= 0 && at < states.length ? states[at] : null;
        }
    }

    /** The text, and how it is read as a program. */
    private static final class Program {
        private final int[] text;
        private final int[] numbers;
        private int length;
        // The token that is read: its kind and its first character, and where the next one can begin.
        private int kind;
        private int start;
        private int end;

        Program() {
            text = new int[MOST_CHARACTERS];
            numbers = new int[MOST_NUMBERS];
        }

        int size() {
            return length;
        }

        int add(int character) {
            if (!inRange(character, 1, 255)) {
                return INVALID_ARGUMENT;
            }
            if (length < 0 || length >= text.length) {
                return CAPACITY_EXCEEDED;
            }
            text[length] = character;
            length++;
            return length;
        }

        int empty() {
            int previous = length;
            length = 0;
            return previous;
        }

        /** Runs the commands one by one; what they have done stays also if a later one fails. */
        int perform(Desk desk) {
            end = 0;
            // A command has more than one character, so the text ends before the turns do.
            for (int commands = 0; commands <= MOST_CHARACTERS; commands++) {
                readToken();
                if (kind == TOKEN_END) {
                    return commands;
                }
                int place = start;
                int command = commandWord();
                if (command == NO_COMMAND || !readNumbers(command)) {
                    return FAILURE - start;
                }
                readToken();
                if (!isSemicolon()) {
                    return FAILURE - start;
                }
                if (obey(desk, command) < 0) {
                    return FAILURE - place;
                }
            }
            return FAILURE - length;
        }

        private int obey(Desk desk, int command) {
            int a = numbers.length > 0 ? numbers[0] : 0;
            int b = numbers.length > 1 ? numbers[1] : 0;
            int c = numbers.length > 2 ? numbers[2] : 0;
            int d = numbers.length > 3 ? numbers[3] : 0;
            switch (command) {
                case COMMAND_ROOM: return desk.newRoom(a, b, c, d);
                case COMMAND_GIFT: return desk.newVoucher(a);
                case COMMAND_BOOK: return desk.newBooking(a, b, c, -1);
                case COMMAND_PAY: return desk.newBooking(a, b, c, d);
                case COMMAND_PLAY: return desk.letPlay(a, b, c, d);
                case COMMAND_DROP: return desk.callOff(a);
                case COMMAND_JOIN: return desk.joinTeams(a, b);
                default: return INVALID_ARGUMENT;
            }
        }

        /** Reads the numbers of a command; stops at the token that is none. */
        private boolean readNumbers(int command) {
            int wanted = command >= 0 && command < COMMAND_NUMBERS.length ? COMMAND_NUMBERS[command] : 0;
            for (int at = 0; at < wanted && at < numbers.length; at++) {
                readToken();
                if (!isNumber()) {
                    return false;
                }
                numbers[at] = numberValue();
            }
            return true;
        }

        private void readToken() {
            start = end;
            while (start < length && signAt(start) == ' ') {
                start++;
            }
            end = start;
            kind = TOKEN_END;
            if (start < length) {
                kind = kindOf(signAt(start));
                end = start + 1;
                while (end < length && kind != TOKEN_SIGN && kindOf(signAt(end)) == kind) {
                    end++;
                }
            }
        }

        private int signAt(int at) {
            return at >= 0 && at < text.length ? text[at] : 0;
        }

        private int kindOf(int sign) {
            if (inRange(sign, 'a', 'z')) {
                return TOKEN_LETTERS;
            }
            return inRange(sign, '0', '9') ? TOKEN_DIGITS : TOKEN_SIGN;
        }

        private boolean isSemicolon() {
            return kind == TOKEN_SIGN && signAt(start) == ';';
        }

        private boolean isNumber() {
            int digits = end - start;
            return kind == TOKEN_DIGITS && digits <= MOST_DIGITS && (digits == 1 || signAt(start) != '0');
        }

        private int numberValue() {
            int value = 0;
            for (int at = start; at < end; at++) {
                value = value * 10 + signAt(at) - '0';
            }
            return value;
        }

        private int commandWord() {
            if (isWord("room")) {
                return COMMAND_ROOM;
            }
            if (isWord("gift")) {
                return COMMAND_GIFT;
            }
            if (isWord("book")) {
                return COMMAND_BOOK;
            }
            if (isWord("pay")) {
                return COMMAND_PAY;
            }
            if (isWord("play")) {
                return COMMAND_PLAY;
            }
            if (isWord("drop")) {
                return COMMAND_DROP;
            }
            return isWord("join") ? COMMAND_JOIN : NO_COMMAND;
        }

        private boolean isWord(String word) {
            if (word.length() != end - start) {
                return false;
            }
            for (int at = 0; at < word.length(); at++) {
                if (signAt(start + at) != word.charAt(at)) {
                    return false;
                }
            }
            return true;
        }
    }
}
