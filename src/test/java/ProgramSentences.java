import java.util.function.Supplier;
import java.util.function.ToIntFunction;

/** The sentences of "Programs" and of the promises 14 to 16. */
final class ProgramSentences extends Sentences {
    private static final int MOST_CHARACTERS = 140;

    /** Rooms 0 and 1, a voucher of 25 euros, and the bookings 0 to 2 of two, at 0, 40 and 80 in room 0. */
    private static TeamRooms venue() {
        TeamRooms x = booked(0, 40, 80);
        x.addRoom(20, 0, 7, 8);
        x.sellVoucher(25);
        return x;
    }

    /** The command does what the call does; where the call is refused, it fails at its word and does nothing. */
    private static void same(String command, Supplier<TeamRooms> venue, ToIntFunction<TeamRooms> call) {
        TeamRooms run = venue.get();
        int answer = runText(run, command);
        TeamRooms called = venue.get();
        due(answer, call.applyAsInt(called) < 0 ? -1000 : 1);
        run.clearText();
        called.clearText();
        samePicture(run, called);
    }

    private static void fails(String text, int place) {
        TeamRooms x = venue();
        due(runText(x, text), -1000 - place);
        due(x.count(5), text.length());
        holds(pictureOfVenue(x).equals(pictureOfVenue(venue())));
    }

    private static void runs(String text, int commands) {
        TeamRooms x = venue();
        due(runText(x, text), commands);
        due(x.count(5), 0);
    }

    @Says("Programs | A text of at most 140 characters can be run as a program: commands (possibly none), "
        + "each of which ends with \";\", a word and then numbers:")
    static void textsAsPrograms() {
        TeamRooms x = new TeamRooms();
        String text = "gift 1;".repeat(8) + "room 20 0 1 2;".repeat(4) + "book 0 0 2;drop 0;book0 9 2;";
        due(text.length(), MOST_CHARACTERS);
        write(x, text);
        due(x.append(';'), FULL);
        due(x.run(), 15);
        due(x.count(0), 4);
        due(x.count(1), 2);
        due(x.count(2), 8);
        // Possibly none.
        runs("", 0);
        runs(" ", 0);
        runs(filled("", MOST_CHARACTERS), 0);
        // Each one ends with ";".
        fails("gift 5", 6);
        fails("gift 5 gift 6;", 7);
        fails("gift 5,", 6);
        fails(";", 0);
        fails("5 gift;", 0);
        fails("gift gift 5;", 5);
    }

    @Says("Programs | \"room\" LENGTH RESET PRICE PLAYERS as addRoom()")
    static void commandRoom() {
        same("room 20 0 1 2;", ProgramSentences::venue, x -> x.addRoom(20, 0, 1, 2));
        same("room 120 60 200 8;", ProgramSentences::venue, x -> x.addRoom(120, 60, 200, 8));
        same("room 19 0 1 2;", ProgramSentences::venue, x -> x.addRoom(19, 0, 1, 2));
        same("room 20 61 1 2;", ProgramSentences::venue, x -> x.addRoom(20, 61, 1, 2));
        same("room 20 0 0 2;", ProgramSentences::venue, x -> x.addRoom(20, 0, 0, 2));
        same("room 20 0 1 9;", ProgramSentences::venue, x -> x.addRoom(20, 0, 1, 9));
        fails("room 20 0 1;", 11);
        fails("room 20 0 1 2 3;", 14);
        fails("room 20 0 1 2;room 20 0 1 2;room 20 0 1 2;", 28);
    }

    @Says("Programs | \"gift\" VALUE as sellVoucher()")
    static void commandGift() {
        same("gift 1;", ProgramSentences::venue, x -> x.sellVoucher(1));
        same("gift 500;", ProgramSentences::venue, x -> x.sellVoucher(500));
        same("gift 0;", ProgramSentences::venue, x -> x.sellVoucher(0));
        same("gift 501;", ProgramSentences::venue, x -> x.sellVoucher(501));
        fails("gift ;", 5);
        fails("gift 1 2;", 7);
        fails("gift 1;".repeat(8), 49);
    }

    @Says("Programs | \"book\" ROOM TIME PLAYERS as book() without a voucher")
    static void commandBook() {
        same("book 0 720 6;", ProgramSentences::venue, x -> x.book(0, 720, 6, -1));
        same("book 1 0 2;", ProgramSentences::venue, x -> x.book(1, 0, 2, -1));
        same("book 2 0 2;", ProgramSentences::venue, x -> x.book(2, 0, 2, -1));
        same("book 0 721 2;", ProgramSentences::venue, x -> x.book(0, 721, 2, -1));
        same("book 0 720 7;", ProgramSentences::venue, x -> x.book(0, 720, 7, -1));
        same("book 0 119 2;", ProgramSentences::venue, x -> x.book(0, 119, 2, -1));
        same("book 0 320 2;", () -> tight(16), x -> x.book(0, 320, 2, -1));
        fails("book 1 0;", 8);
        fails("book 1 0 2 0;", 11);
    }

    @Says("Programs | \"pay\" ROOM TIME PLAYERS VOUCHER as book() with this voucher")
    static void commandPay() {
        same("pay 0 720 6 0;", ProgramSentences::venue, x -> x.book(0, 720, 6, 0));
        same("pay 1 0 2 0;", ProgramSentences::venue, x -> x.book(1, 0, 2, 0));
        same("pay 1 0 2 1;", ProgramSentences::venue, x -> x.book(1, 0, 2, 1));
        same("pay 0 0 2 0;", ProgramSentences::venue, x -> x.book(0, 0, 2, 0));
        fails("pay 1 0 2;", 9);
        fails("pay 1 0 2 -1;", 10);
        fails("pay 1 0 2 0 0;", 12);
    }

    @Says("Programs | \"play\" BOOKING GOAL HINTS WRECKAGE as play()")
    static void commandPlay() {
        same("play 0 30 20 9;", ProgramSentences::venue, x -> x.play(0, 30, 20, 9));
        same("play 0 0 0 0;", ProgramSentences::venue, x -> x.play(0, 0, 0, 0));
        same("play 0 31 0 0;", ProgramSentences::venue, x -> x.play(0, 31, 0, 0));
        same("play 0 0 21 0;", ProgramSentences::venue, x -> x.play(0, 0, 21, 0));
        same("play 0 0 0 10;", ProgramSentences::venue, x -> x.play(0, 0, 0, 10));
        same("play 1 0 0 0;", ProgramSentences::venue, x -> x.play(1, 0, 0, 0));
        same("play 3 0 0 0;", ProgramSentences::venue, x -> x.play(3, 0, 0, 0));
        fails("play 0 0 0;", 10);
        fails("play 0 0 0 0 0;", 13);
    }

    @Says("Programs | \"drop\" BOOKING as cancel()")
    static void commandDrop() {
        same("drop 0;", ProgramSentences::venue, x -> x.cancel(0));
        same("drop 2;", ProgramSentences::venue, x -> x.cancel(2));
        same("drop 3;", ProgramSentences::venue, x -> x.cancel(3));
        same("drop 1;", () -> delayed(16, 8, 9), x -> x.cancel(1));
        same("drop 0;", Sentences::mixed, x -> x.cancel(0));
        fails("drop;", 4);
        fails("drop 0 1;", 7);
        fails("drop 0;drop 0;", 7);
    }

    @Says("Programs | \"join\" BOOKING BOOKING as merge()")
    static void commandJoin() {
        same("join 0 2;", ProgramSentences::venue, x -> x.merge(0, 2));
        same("join 2 0;", ProgramSentences::venue, x -> x.merge(2, 0));
        same("join 0 0;", ProgramSentences::venue, x -> x.merge(0, 0));
        same("join 0 3;", ProgramSentences::venue, x -> x.merge(0, 3));
        same("join 3 4;", Sentences::mixed, x -> x.merge(3, 4));
        fails("join 0;", 6);
        fails("join 0 1 2;", 9);
    }

    @Says("Programs | Tokens are maximal runs of letters a to z, maximal runs of digits, "
        + "and any other character that is no space.")
    static void tokens() {
        // The letters a and z are of the run, their neighbours aren't; so are the digits 0 and 9.
        fails("gifta 5;", 0);
        fails("giftz 5;", 0);
        fails("gift`5;", 4);
        fails("gift{5;", 4);
        fails("giftA5;", 4);
        fails("giftZ5;", 4);
        fails("Gift 5;", 0);
        fails("giFt 5;", 0);
        runs("gift 90;", 1);
        runs("gift 109;", 1);
        fails("gift 5/;", 6);
        fails("gift 5:;", 6);
        fails("gift 5a;", 6);
        // Any other character is a token by itself, whatever stands beside it.
        runs("gift 5;gift 6;", 2);
        fails("gift 5;;", 7);
        fails("gift 5;!;", 7);
        fails("gift 5!!;", 6);
        for (int character : new int[] {1, 9, 10, 13, 31, 33, 127, 128, 160, 255}) {
            fails("gift" + (char) character + "5;", 4);
            fails("gift 5" + (char) character + ";", 6);
            fails("gift 5;" + (char) character, 7);
            fails((char) character + "gift 5;", 0);
        }
    }

    @Says("Programs | A number is a run of 1 to 4 digits, the first of several not 0.")
    static void numbers() {
        runs("book 1 0 2;", 1);
        runs("gift 5;", 1);
        runs("gift 50;", 1);
        runs("gift 500;", 1);
        // It is a number, so the call comes, which returns an error code: the place is that of the word.
        fails("gift 1000;", 0);
        fails("gift 9999;", 0);
        fails("gift 0;", 0);
        // It is none, so that is its own place.
        fails("gift 10000;", 5);
        fails("gift 99999;", 5);
        fails("gift 12345678901234567890;", 5);
        fails("gift 4294967301;", 5);
        fails("gift 00;", 5);
        fails("gift 05;", 5);
        fails("gift 005;", 5);
        fails("gift 0005;", 5);
        fails("gift 00005;", 5);
        fails("book 1 00 2;", 7);
        fails("book 01 0 2;", 5);
        fails("gift +5;", 5);
        fails("gift -5;", 5);
        fails("gift five;", 5);
    }

    @Says("Programs | Spaces (code 32) may stand before, between and after tokens")
    static void spaces() {
        runs("   gift   5   ;   ", 1);
        runs(" gift 5 ; gift 6 ; ", 2);
        runs("  book  1  0  2  ;", 1);
        runs(filled("gift 5;", MOST_CHARACTERS), 1);
        runs(" ".repeat(MOST_CHARACTERS - 7) + "gift 5;", 1);
        fails("  gift  5  ", 11);
        fails("gi ft 5;", 0);
        fails("gift\t5;", 4);
    }

    @Says("Programs | they are needed only between two runs of letters and between two runs of digits.")
    static void withoutSpaces() {
        runs("gift5;gift6;room20 0 1 2;", 3);
        runs("book1 0 2;pay1 20 2 0;play0 1 1 1;drop1;join3 4;", 5);
        fails("book1 0 2;pay1 20 2 0;play0 1 1 1;drop1;join34;", 46);
        fails("book10 2;", 8);
        fails("book1 02;", 6);
        fails("giftgift 5;", 0);
        TeamRooms x = venue();
        due(runText(x, "gift5 0;"), -1006);
        due(runText(x, "gift50;"), 1);
        due(x.voucher(1, 0), 50);
    }

    @Says("Programs | The commands are read and run one by one.")
    static void oneByOne() {
        // Later commands find what earlier ones have done.
        runs("gift 9;pay 1 0 2 1;join 0 1;drop 1;play 3 1 1 1;", 5);
        runs("room 20 0 1 2;book 2 0 2;play 3 20 0 0;", 3);
        // An earlier command is run ahead of reading a later one, but behind reading itself.
        fails("gift 0;?", 0);
        fails("gift 5;gift 0;?", 7);
        fails("gift 0?", 6);
        fails("gift 0", 6);
        fails("gift 5;drop 3;gift 00;", 7);
    }

    @Says("Programs | A program fails at the first token that is not allowed where it stands, "
        + "and at the first command whose call returns an error code (the place is then that of its word).")
    static void failures() {
        fails("x", 0);
        fails("gif 5;", 0);
        fails("gifts 5;", 0);
        fails(" roo 20 0 1 2;", 1);
        fails("gift 5; go 5;?", 8);
        fails("book 1 x 2;", 7);
        fails("book 1 ; 2;", 7);
        fails("book 1 0 2 ? ;", 11);
        fails("book 1 0 2 ! ? ;", 11);
        fails("  gift  501  ;", 2);
        fails("gift 5;  gift 0;  gift 0;", 9);
        fails("book 0 0 2;", 0);
        fails("book 1 0 2;book 1 19 2;", 11);
        fails("join 0 1;join 1 2;play 0 0 0 0;", 18);
        notQuiteWords();
        String last = " ".repeat(MOST_CHARACTERS - 7) + "gift 0;";
        fails(last, MOST_CHARACTERS - 7);
        fails(filled("gift 5;", MOST_CHARACTERS - 1) + "?", MOST_CHARACTERS - 1);
    }

    /** A word of a command with one other letter, without its last letter or with one more is no word of a command. */
    private static void notQuiteWords() {
        for (String command : new String[] {"room 20 0 1 2;", "gift 5;", "book 1 0 2;", "pay 1 0 2 0;", "play 0 1 1 1;",
            "drop 0;", "join 0 1;"}) {
            runs(command, 1);
            int length = command.indexOf(' ');
            for (int at = 0; at < length; at++) {
                fails(command.substring(0, at) + "x" + command.substring(at + 1), 0);
            }
            fails(command.substring(0, length - 1) + command.substring(length), 0);
            fails("x" + command, 0);
            fails(command.substring(0, length) + "x" + command.substring(length), 0);
            fails(command.substring(1), 0);
        }
    }

    @Says("Programs | The place of a failure is the offset (from 0) of the first character of the token, "
        + "or the length of the text if it ends where something is missing.")
    static void places() {
        fails("?", 0);
        fails(" ?", 1);
        fails("gift", 4);
        fails("gift ", 5);
        fails("gift 5", 6);
        fails("gift 5   ", 9);
        fails("book 1 0", 8);
        fails("book 1 0 2", 10);
        fails("gift 5;gift", 11);
        fails("gift 12345;", 5);
        fails("gift giftgift;", 5);
        fails(filled("gift 5", MOST_CHARACTERS), MOST_CHARACTERS);
        fails(filled("gift", MOST_CHARACTERS), MOST_CHARACTERS);
        fails(filled("gift 5;", MOST_CHARACTERS - 4) + "gift", MOST_CHARACTERS);
    }

    @Says("Programs | If a program fails, nothing that it has done stays.")
    static void nothingStays() {
        fails("gift 5;book 1 0 2;pay 1 20 8 0;join 0 1;drop 1;play 2 30 9 9;room 20 0 1 2;x", 75);
        fails("gift 5;gift 6;drop 3;", 14);
        refused(-1075, () -> {
            TeamRooms x = venue();
            x.take(1);
            write(x, "gift 5;book 1 0 2;pay 1 20 8 0;join 0 1;drop 1;play 2 30 9 9;room 20 0 1 2;x");
            return x;
        }, x -> x.run());
        // Nor does anything of it show in what comes anew.
        TeamRooms x = venue();
        runText(x, "room 20 0 1 2;pay 2 0 2 0;play 3 0 9 9;gift 5;x");
        due(x.addRoom(20, 0, 1, 2), 2);
        due(x.room(2, 4), 0);
        due(x.room(2, 5), 0);
        due(x.book(1, 0, 2, -1), 3);
        due(x.booking(3, 6), 0);
        due(x.booking(3, 8), NONE);
        due(x.book(1, 20, 2, 0), 4);
        due(x.booking(4, 6), 14);
    }

    private static TeamRooms withText(int length) {
        TeamRooms x = venue();
        for (int at = 0; at < length; at++) {
            x.append(' ');
        }
        return x;
    }

    @Says("Promise 14 | `int append(int character)`: Appends a character to the text.")
    static void appends() {
        TeamRooms x = venue();
        x.append(' ');
        x.append('?');
        due(x.run(), -1001);
        x.clearText();
        x.append('?');
        x.append(' ');
        due(x.run(), -1000);
        isNoAction(ProgramSentences::venue, y -> y.append('a'));
    }

    @Says("Promise 14 | `character`: character code, 1 to 255")
    static void characters() {
        takes(1, 255, character -> new TeamRooms().append(character));
        due(new TeamRooms().append(0), INVALID);
        // Codes are not taken modulo 256 or 65,536.
        due(new TeamRooms().append(256 + 'a'), INVALID);
        due(new TeamRooms().append(65536 + 'a'), INVALID);
    }

    @Says("Promise 14 | Returns the new length of the text")
    static void newLengths() {
        TeamRooms x = new TeamRooms();
        for (int length = 1; length <= MOST_CHARACTERS; length++) {
            due(x.append(1 + length % 255), length);
            due(x.count(5), length);
        }
        due(x.append('a'), FULL);
        due(x.count(5), MOST_CHARACTERS);
        x.clearText();
        due(x.append('a'), 1);
    }

    @Says("Promise 14 | INVALID_ARGUMENT if character is out of range")
    static void appendOutOfRange() {
        refused(INVALID, TeamRooms::new, x -> x.append(0));
        refused(INVALID, Sentences::mixed, x -> x.append(256));
        refused(INVALID, Sentences::mixed, x -> x.append(-1));
        refused(INVALID, Sentences::mixed, x -> x.append(MIN));
        refused(INVALID, Sentences::mixed, x -> x.append(MAX));
        // It comes ahead of a full text.
        refused(INVALID, () -> withText(MOST_CHARACTERS), x -> x.append(0));
        refused(INVALID, () -> withText(MOST_CHARACTERS), x -> x.append(256));
    }

    @Says("Promise 14 | CAPACITY_EXCEEDED if the text already has 140 characters.")
    static void appendToAFullText() {
        due(withText(139).append('a'), 140);
        refused(FULL, () -> withText(MOST_CHARACTERS), x -> x.append(1));
        refused(FULL, () -> withText(MOST_CHARACTERS), x -> x.append(255));
        TeamRooms x = withText(MOST_CHARACTERS);
        due(x.append('?'), FULL);
        due(x.run(), 0);
        due(x.append('?'), 1);
    }

    @Says("Promise 15 | `int clearText()`: Makes the text empty.")
    static void clears() {
        TeamRooms x = venue();
        write(x, "gift 5;");
        x.clearText();
        due(x.count(5), 0);
        due(x.run(), 0);
        due(x.count(2), 1);
        x.append('?');
        x.clearText();
        write(x, "gift 5; ");
        x.clearText();
        write(x, "gift");
        due(x.run(), -1004);
        // A token ends where the text ends, whatever stood behind before.
        write(x, "drop 123");
        x.clearText();
        write(x, "drop 1");
        due(x.run(), -1006);
        write(x, "gifts");
        x.clearText();
        write(x, "gift");
        due(x.run(), -1004);
        isNoAction(Sentences::mixed, y -> y.clearText());
        isNoAction(ProgramSentences::venue, y -> y.clearText());
    }

    @Says("Promise 15 | Returns the previous length of the text.")
    static void previousLengths() {
        due(new TeamRooms().clearText(), 0);
        due(withText(1).clearText(), 1);
        due(withText(139).clearText(), 139);
        due(withText(140).clearText(), 140);
        TeamRooms x = withText(140);
        x.append('a');
        due(x.clearText(), 140);
        due(x.clearText(), 0);
    }

    @Says("Promise 16 | `int run()`: Runs the text as a program.")
    static void runsTheText() {
        TeamRooms x = venue();
        due(runText(x, "gift 77;"), 1);
        due(x.voucher(1, 0), 77);
        // Once: the text is empty then.
        due(x.run(), 0);
        due(x.count(2), 2);
        due(runText(x, "gift 78"), -1007);
        x.append(';');
        due(x.run(), 1);
        due(x.voucher(2, 0), 78);
    }

    private static TeamRooms withProgram(String text) {
        TeamRooms x = venue();
        write(x, text);
        return x;
    }

    @Says("Promise 16 | If it does not fail, this is one action, also without commands, and the text becomes empty")
    static void runIsOneAction() {
        for (String text : new String[] {"", "   ", "gift 5;", "gift 5;gift 6;drop 0;join 1 2;"}) {
            TeamRooms x = withProgram(text);
            x.undo();
            x.undo();
            due(x.count(4), 3);
            x.sellVoucher(44);
            due(x.count(4), 4);
            holds(x.run() >= 0);
            due(x.count(4), 5);
            due(x.count(5), 0);
            due(x.undo(), 4);
            due(x.count(5), 0);
            due(x.count(2), 1);
            due(x.voucher(0, 0), 44);
            due(x.booking(0, 3), 0);
            due(x.booking(1, 3), 0);
        }
        // As a sixth one it drops the oldest state.
        TeamRooms x = new TeamRooms();
        for (int value = 1; value <= 5; value++) {
            x.sellVoucher(value);
        }
        due(x.run(), 0);
        due(x.count(4), 5);
        for (int left = 4; left >= 0; left--) {
            due(x.undo(), left);
        }
        due(x.count(2), 1);
    }

    @Says("Promise 16 | if it fails, the text is kept.")
    static void failuresKeepTheText() {
        TeamRooms x = withProgram("gift 5;gift 0");
        due(x.run(), -1013);
        due(x.count(5), 13);
        x.append(';');
        due(x.run(), -1007);
        due(x.run(), -1007);
        due(x.count(5), 14);
        due(x.clearText(), 14);
        isNoAction(() -> withProgram("gift 5;gift 0;"), y -> y.run());
        isNoAction(() -> withProgram("?"), y -> y.run());
        TeamRooms full = withProgram(filled("gift", MOST_CHARACTERS));
        due(full.run(), -1140);
        due(full.append(' '), FULL);
    }

    @Says("Promise 16 | Returns the number of commands")
    static void numberOfCommands() {
        runs("", 0);
        runs("gift 5;", 1);
        runs("gift 5;".repeat(7), 7);
        runs("drop 0;drop 1;drop 2;book 0 0 2;drop 3;book 0 0 2;drop 4;book 0 0 2;drop 5;book 0 0 2;drop 6;", 11);
    }

    @Says("Promise 16 | -1000 minus the place of the failure if it fails.")
    static void answersOfFailures() {
        due(withProgram("gift 0;").run(), -1000);
        due(withProgram("?").run(), -1000);
        due(withProgram(" ?").run(), -1001);
        due(withProgram(filled("", 139) + "?").run(), -1139);
        due(withProgram(filled("gift 5", 140)).run(), -1140);
    }
}
