/** The sentences of "Payments and vouchers" and of the promises 5 and 8. */
final class PaymentSentences extends Sentences {
    /** A booking of two for 20 euros, paid as far as possible from a voucher of this value. */
    private static TeamRooms paidFrom(int value) {
        TeamRooms x = booked();
        x.sellVoucher(value);
        x.book(0, 0, 2, 0);
        return x;
    }

    private static TeamRooms withVouchers(int vouchers) {
        TeamRooms x = booked();
        for (int voucher = 0; voucher < vouchers; voucher++) {
            x.sellVoucher(1 + voucher);
        }
        return x;
    }

    private static TeamRooms eightVouchers() {
        return withVouchers(8);
    }

    private static void payments(TeamRooms x, int booking, int cash, int byVouchers, int number) {
        due(x.booking(booking, 5), cash);
        due(x.booking(booking, 6), byVouchers);
        due(x.booking(booking, 10), number);
    }

    @Says("Payments and vouchers | The charge of a booking is the price of its room (as it is then) times its players.")
    static void charges() {
        TeamRooms x = new TeamRooms();
        x.addRoom(20, 0, 1, 8);
        due(x.book(0, 0, 2, -1), 0);
        due(x.setPrice(0, 200), 1);
        due(x.book(0, 20, 8, -1), 1);
        due(x.setPrice(0, 3), 200);
        due(x.book(0, 40, 5, -1), 2);
        due(x.booking(0, 4), 2);
        due(x.booking(1, 4), 1600);
        due(x.booking(2, 4), 15);
        due(x.money(2), 1617);
        due(x.money(0), 1617);
    }

    @Says("Payments and vouchers | It is paid at once: as far as possible from a voucher, if one is told, the rest in cash.")
    static void paidAtOnce() {
        payments(paidFrom(1), 0, 19, 1, 1);
        payments(paidFrom(19), 0, 1, 19, 1);
        payments(paidFrom(20), 0, 0, 20, 1);
        payments(paidFrom(21), 0, 0, 20, 1);
        due(paidFrom(19).voucher(0, 1), 0);
        due(paidFrom(20).voucher(0, 1), 0);
        due(paidFrom(21).voucher(0, 1), 1);
        // None is told: all is cash, whatever vouchers there are.
        TeamRooms x = paidFrom(21);
        x.book(0, 40, 2, -1);
        payments(x, 1, 20, 0, 0);
        due(x.voucher(0, 1), 1);
        // The voucher is partly used already, and then it is empty.
        x.book(0, 80, 2, 0);
        payments(x, 2, 19, 1, 1);
        x.book(0, 120, 2, 0);
        payments(x, 3, 20, 0, 0);
    }

    @Says("Payments and vouchers | A booking has one cash payment (which can be 0) "
        + "and a row of voucher payments (only such as are greater than 0).")
    static void rowsOfPayments() {
        TeamRooms x = paidFrom(20);
        payments(x, 0, 0, 20, 1);
        // An empty voucher makes no payment.
        x.book(0, 40, 2, 0);
        payments(x, 1, 20, 0, 0);
        due(x.voucher(0, 2), 1);
        x.merge(1, 0);
        payments(x, 0, 20, 20, 1);
        // The longest row: a room has room for four teams of two.
        TeamRooms y = tight(0);
        for (int at = 0; at < 4; at++) {
            y.sellVoucher(5 + at);
            y.book(0, 20 * at, 2, at);
        }
        y.merge(0, 3);
        y.merge(1, 3);
        y.merge(2, 3);
        payments(y, 3, 54, 26, 4);
        due(y.cancel(3), 40);
        payments(y, 3, 14, 26, 4);
        noPaymentsInRow(-1);
        noPaymentsInRow(0);
    }

    /** A booking without voucher payments gets those of another one: nothing stands ahead of them in the row. */
    private static void noPaymentsInRow(int voucher) {
        TeamRooms x = paidFrom(20);
        x.sellVoucher(5);
        due(x.book(0, 40, 2, voucher), 1);
        payments(x, 1, 20, 0, 0);
        due(x.book(0, 80, 2, 1), 2);
        x.merge(2, 1);
        payments(x, 1, 35, 5, 1);
        x.set(3, 0);
        x.play(0, 30, 0, 9);
        due(x.forecast(1, 1), 45);
        // All that is paid is refunded.
        due(x.cancel(1), 40);
        payments(x, 1, 0, 0, 0);
        due(x.voucher(1, 1), 5);
    }

    @Says("Payments and vouchers | There are at most 8 vouchers, numbered from 0 in the order in which they were sold.")
    static void atMostEightVouchers() {
        TeamRooms x = new TeamRooms();
        for (int voucher = 0; voucher < 8; voucher++) {
            due(x.sellVoucher(500 - voucher), voucher);
        }
        due(x.sellVoucher(1), FULL);
        for (int voucher = 0; voucher < 8; voucher++) {
            due(x.voucher(voucher, 0), 500 - voucher);
        }
        due(x.voucher(8, 0), INVALID);
        due(x.count(2), 8);
        due(x.money(0), 3972);
        x.undo();
        due(x.sellVoucher(1), 7);
        due(x.sellVoucher(1), FULL);
        due(x.money(0), 3480);
    }

    @Says("Payments and vouchers | A voucher is sold for cash")
    static void soldForCash() {
        TeamRooms x = new TeamRooms();
        x.sellVoucher(1);
        due(x.money(0), 1);
        x.sellVoucher(500);
        due(x.money(0), 501);
        due(x.money(4), 0);
        x.sellVoucher(501);
        due(x.money(0), 501);
    }

    @Says("Payments and vouchers | this is its balance at first.")
    static void firstBalance() {
        TeamRooms x = new TeamRooms();
        x.sellVoucher(1);
        x.sellVoucher(500);
        due(x.voucher(0, 1), 1);
        due(x.voucher(1, 1), 500);
        due(x.voucher(1, 2), 0);
        due(x.money(1), 501);
    }

    private static void halfRefunded(int value, int cash, int byVoucher, int number, int balance) {
        TeamRooms x = paidFrom(value);
        due(x.cancel(0), 10);
        payments(x, 0, cash, byVoucher, number);
        due(x.voucher(0, 1), balance);
        due(x.booking(0, 7), 10);
    }

    @Says("Payments and vouchers | When an amount is refunded for a booking, it is taken first from its cash payment, "
        + "which becomes less by it, and what that does not have from its voucher payments, "
        + "the last one of the row first, each becoming less by it")
    static void refundsTakenInOrder() {
        halfRefunded(9, 1, 9, 1, 0);
        halfRefunded(10, 0, 10, 1, 0);
        halfRefunded(11, 0, 10, 1, 1);
        halfRefunded(20, 0, 10, 1, 10);
        // A row of 30 and 10, and 10 in cash: of the half, 25, all cash and all of the last one go, and 5 of the first.
        TeamRooms x = booked();
        x.sellVoucher(30);
        x.sellVoucher(10);
        x.book(0, 0, 3, 0);
        x.book(0, 40, 2, 1);
        x.merge(1, 0);
        due(x.cancel(0), 25);
        payments(x, 0, 0, 25, 1);
        due(x.voucher(0, 1), 5);
        due(x.voucher(1, 1), 10);
        // A row of 30 and 20, and no cash: of the half, 25, all of the last one goes, and 5 of the first.
        TeamRooms y = booked();
        y.sellVoucher(30);
        y.sellVoucher(20);
        y.book(0, 0, 3, 0);
        y.book(0, 40, 2, 1);
        y.merge(1, 0);
        due(y.cancel(0), 25);
        payments(y, 0, 0, 25, 1);
        // A row of 20 and 30: the last one has more than the half.
        TeamRooms z = booked();
        z.sellVoucher(20);
        z.sellVoucher(30);
        z.book(0, 0, 2, 0);
        z.book(0, 40, 3, 1);
        z.merge(1, 0);
        due(z.cancel(0), 25);
        payments(z, 0, 0, 25, 2);
        due(z.voucher(0, 1), 0);
        due(z.voucher(1, 1), 25);
        // Two of the same voucher, the last one exactly the half.
        TeamRooms w = paidFrom(40);
        w.book(0, 40, 2, 0);
        w.merge(0, 1);
        due(w.cancel(1), 20);
        payments(w, 1, 0, 20, 1);
        due(w.voucher(0, 2), 1);
    }

    @Says("Payments and vouchers | this goes back to the balance of the voucher.")
    static void backToTheBalance() {
        TeamRooms x = paidFrom(20);
        due(x.voucher(0, 1), 0);
        due(x.money(0), 20);
        x.cancel(0);
        due(x.voucher(0, 1), 10);
        due(x.voucher(0, 0), 20);
        due(x.money(0), 20);
        // It can be used again.
        due(x.book(0, 0, 2, 0), 1);
        payments(x, 1, 10, 10, 1);
        due(x.voucher(0, 2), 2);
        // Where all goes back, the balance is the value again.
        TeamRooms y = delayed(1, 2, 10);
        y.sellVoucher(20);
        y.cancel(1);
        due(y.book(0, 20, 2, 0), 2);
        y.set(3, 0);
        due(y.cancel(2), 20);
        due(y.voucher(0, 1), 20);
    }

    @Says("Payments and vouchers | The till has the cash of all vouchers that were sold and of all payments, "
        + "less what was refunded in cash (at first 0).")
    static void till() {
        TeamRooms x = booked();
        due(x.money(0), 0);
        x.sellVoucher(15);
        due(x.money(0), 15);
        x.book(0, 0, 2, 0);
        due(x.money(0), 20);
        x.book(0, 40, 2, -1);
        due(x.money(0), 40);
        x.merge(0, 1);
        due(x.money(0), 40);
        // 25 of it is in cash, so 20 of it is refunded in cash.
        due(x.cancel(1), 20);
        due(x.money(0), 20);
        x.book(0, 0, 2, 0);
        due(x.money(0), 40);
        TeamRooms y = paidFrom(20);
        y.cancel(0);
        // Nothing of it was in cash.
        due(y.money(0), 20);
    }

    @Says("Promise 5 | `int sellVoucher(int value)`: Sells a voucher.")
    static void aNewVoucher() {
        TeamRooms x = mixed();
        due(x.sellVoucher(77), 1);
        due(x.voucher(1, 0), 77);
        due(x.voucher(1, 1), 77);
        due(x.voucher(1, 2), 0);
        due(x.voucher(0, 0), 25);
        due(x.voucher(0, 1), 0);
        due(x.voucher(0, 2), 1);
    }

    @Says("Promise 5 | This is an action.")
    static void sellVoucherIsAnAction() {
        isAction(TeamRooms::new, x -> x.sellVoucher(500));
        isAction(Sentences::mixed, x -> x.sellVoucher(1));
        isAction(() -> withVouchers(7), x -> x.sellVoucher(1));
        isNoAction(Sentences::mixed, x -> x.sellVoucher(0));
        isNoAction(PaymentSentences::eightVouchers, x -> x.sellVoucher(1));
    }

    @Says("Promise 5 | `value`: 1 to 500")
    static void values() {
        takes(1, 500, value -> new TeamRooms().sellVoucher(value));
    }

    @Says("Promise 5 | Returns its number")
    static void numbersOfVouchers() {
        TeamRooms x = new TeamRooms();
        due(x.sellVoucher(1), 0);
        due(x.sellVoucher(0), INVALID);
        due(x.sellVoucher(1), 1);
        due(x.undo(), 1);
        due(x.sellVoucher(2), 1);
        due(x.sellVoucher(3), 2);
    }

    @Says("Promise 5 | INVALID_ARGUMENT if value is out of range")
    static void sellVoucherOutOfRange() {
        refused(INVALID, TeamRooms::new, x -> x.sellVoucher(0));
        refused(INVALID, TeamRooms::new, x -> x.sellVoucher(501));
        refused(INVALID, Sentences::mixed, x -> x.sellVoucher(-1));
        refused(INVALID, Sentences::mixed, x -> x.sellVoucher(MIN));
        refused(INVALID, Sentences::mixed, x -> x.sellVoucher(MAX));
        // It comes ahead of eight that are there.
        refused(INVALID, PaymentSentences::eightVouchers, x -> x.sellVoucher(0));
        refused(INVALID, PaymentSentences::eightVouchers, x -> x.sellVoucher(501));
    }

    @Says("Promise 5 | CAPACITY_EXCEEDED if there are 8.")
    static void sellANinth() {
        refused(FULL, PaymentSentences::eightVouchers, x -> x.sellVoucher(1));
        refused(FULL, PaymentSentences::eightVouchers, x -> x.sellVoucher(500));
        due(withVouchers(7).sellVoucher(500), 7);
        // Empty ones are there, too.
        TeamRooms x = eightVouchers();
        x.book(0, 0, 2, 7);
        due(x.voucher(7, 1), 0);
        due(x.sellVoucher(1), FULL);
    }

    @Says("Promise 8 | `int cancel(int booking)`: Cancels a booking that is booked: "
        + "if its forecast delay is more than the patience, all that is paid for it is refunded, "
        + "otherwise half of this, rounded down.")
    static void cancels() {
        due(delayed(14, 2, 10).cancel(1), 10);
        due(delayed(15, 2, 10).cancel(1), 10);
        due(delayed(16, 2, 10).cancel(1), 20);
        due(delayed(199, 8, 200).cancel(1), 1600);
        due(delayed(0, 8, 200).cancel(1), 800);
        TeamRooms x = delayed(1, 3, 1);
        due(x.cancel(1), 1);
        x = delayed(1, 3, 1);
        x.set(3, 0);
        due(x.cancel(1), 3);
        x = delayed(0, 3, 1);
        x.set(3, 0);
        due(x.cancel(1), 1);
        x = delayed(60, 7, 1);
        x.set(3, 60);
        due(x.cancel(1), 3);
        payments(x, 1, 4, 0, 0);
        due(x.booking(1, 3), 2);
        due(x.booking(1, 2), 7);
        due(x.booking(1, 4), 7);
        // The percentage does not count, and the price of the room does not any more.
        x = delayed(16, 3, 7);
        x.set(4, 0);
        x.setPrice(0, 100);
        due(x.cancel(1), 21);
        allBackToItsVouchers();
    }

    private static void allBackToItsVouchers() {
        TeamRooms x = tight(1);
        x.sellVoucher(19);
        x.book(0, 20, 2, 0);
        x.set(1, 16);
        x.play(0, 20, 20, 0);
        due(x.cancel(1), 20);
        payments(x, 1, 0, 0, 0);
        due(x.voucher(0, 1), 19);
        due(x.voucher(0, 2), 0);
        due(x.money(0), 39);
        due(x.money(3), 20);
    }

    @Says("Promise 8 | This is an action.")
    static void cancelIsAnAction() {
        isAction(() -> booked(0), x -> x.cancel(0));
        isAction(() -> paidFrom(19), x -> x.cancel(0));
        isAction(Sentences::mixed, x -> x.cancel(4));
        isNoAction(Sentences::mixed, x -> x.cancel(0));
        isNoAction(() -> booked(0), x -> x.cancel(1));
    }

    @Says("Promise 8 | `booking`: a booking")
    static void cancelWhich() {
        takes(0, 1, booking -> booked(0, 40).cancel(booking));
        takes(0, 15, booking -> tight(16).cancel(booking));
    }

    @Says("Promise 8 | Returns the amount that is refunded")
    static void amountRefunded() {
        TeamRooms x = new TeamRooms();
        x.addRoom(20, 0, 1, 8);
        for (int players = 2; players <= 8; players++) {
            int booking = x.book(0, 100, players, -1);
            due(x.cancel(booking), players / 2);
            due(x.booking(booking, 7), players / 2);
        }
        due(x.money(3), 1 + 1 + 2 + 2 + 3 + 3 + 4);
    }

    @Says("Promise 8 | INVALID_ARGUMENT if there is no such booking")
    static void cancelNone() {
        refused(INVALID, TeamRooms::new, x -> x.cancel(0));
        refused(INVALID, () -> booked(0), x -> x.cancel(1));
        refused(INVALID, () -> booked(0), x -> x.cancel(-1));
        refused(INVALID, Sentences::mixed, x -> x.cancel(5));
        refused(INVALID, Sentences::mixed, x -> x.cancel(MIN));
        refused(INVALID, Sentences::mixed, x -> x.cancel(MAX));
        due(tight(16).cancel(16), INVALID);
    }

    @Says("Promise 8 | ILLEGAL_STATE if it is not booked.")
    static void cancelNotPossible() {
        refused(ILLEGAL, Sentences::mixed, x -> x.cancel(0));
        refused(ILLEGAL, Sentences::mixed, x -> x.cancel(1));
        refused(ILLEGAL, Sentences::mixed, x -> x.cancel(2));
        TeamRooms x = booked(0);
        due(x.cancel(0), 10);
        due(x.cancel(0), ILLEGAL);
        x.undo();
        due(x.cancel(0), 10);
    }
}
