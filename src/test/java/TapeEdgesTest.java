import java.util.Arrays;

/** The boundary cases of promises 1 to 4, each by itself: a new object, feed, wipe and let. */
public final class TapeEdgesTest {
    private static final long LONG = 0xF8F7F6F5F4F3F2F1L;
    private static final int[] NO_WHICH = {-1, 3, 4, 256, -3, Integer.MIN_VALUE, Integer.MAX_VALUE};

    public static void main(String[] args) {
        aNewObject();
        feed();
        wipe();
        let();
        Check.close();
    }

    private static void aNewObject() {
        Check.edge("Promise 1: an empty tape", TapeEdgesTest::emptyTape);
        Check.edge("Promise 1: name and custom are empty", TapeEdgesTest::emptyNameAndCustom);
        Check.edge("Promise 1: the key is empty", TapeEdgesTest::emptyKey);
        Check.edge("Promise 1: sponges 0 to 3 have just begun", TapeEdgesTest::justBegun);
        Check.edge("Promise 1: they have begun with the kind 0", TapeEdgesTest::begunWithKind0);
        Check.edge("Promise 1: a new object has nothing of another", TapeEdgesTest::nothingOfAnother);
        Check.edge("Promise 1: two objects go on side by side", TapeEdgesTest::sideBySide);
    }

    private static void feed() {
        Check.edge("Promise 2: the n lowest bytes, n from 1 to 8", TapeEdgesTest::feedEachSize);
        Check.edge("Promise 2: n of 1: the bytes above do not come", TapeEdgesTest::feedOne);
        Check.edge("Promise 2: n of 8: all bytes come", TapeEdgesTest::feedEight);
        Check.edge("Promise 2: bytes 0 and bytes 255 count as others do", TapeEdgesTest::feedSameBytes);
        Check.edge("Promise 2: they come behind the tape", TapeEdgesTest::feedBehind);
        Check.edge("Promise 2: the tape becomes just full", TapeEdgesTest::feedToFull);
        Check.edge("Promise 2: NONE when there would be more than 300", TapeEdgesTest::feedTooMany);
        Check.edge("Promise 2: NONE when the tape is full", TapeEdgesTest::feedFull);
        Check.edge("Promise 2: behind NONE, what has room comes still", TapeEdgesTest::feedBehindNone);
        Check.edge("Promise 2: IllegalArgumentException: n is not 1 to 8", TapeEdgesTest::feedNoSize);
        Check.edge("Promise 2: n is not 1 to 8, and the tape is full", TapeEdgesTest::feedNoSizeFull);
    }

    private static void wipe() {
        Check.edge("Promise 3: an empty tape is wiped", TapeEdgesTest::wipeEmpty);
        Check.edge("Promise 3: a tape of one byte is wiped", () -> wipeOf(1));
        Check.edge("Promise 3: a full tape is wiped", () -> wipeOf(300));
        Check.edge("Promise 3: the tape is empty then", TapeEdgesTest::wipedTapeComesIn);
        Check.edge("Promise 3: nothing of the old tape is left", TapeEdgesTest::wipedBytesAreGone);
        Check.edge("Promise 3: name, custom and key stay", TapeEdgesTest::wipeLeavesWhatWasLet);
        Check.edge("Promise 3: what came in before stays", TapeEdgesTest::wipeLeavesTheSponges);
    }

    private static void let() {
        Check.edge("Promise 4: which of 0, 1 and 2, each another row", TapeEdgesTest::letEach);
        Check.edge("Promise 4: an empty tape is let", TapeEdgesTest::letEmpty);
        Check.edge("Promise 4: a tape of one byte is let", () -> letOf(1));
        Check.edge("Promise 4: a full tape is let", () -> letOf(300));
        Check.edge("Promise 4: the tape is empty then", TapeEdgesTest::letEmptiesTheTape);
        Check.edge("Promise 4: a shorter one takes the place of a longer", () -> letAgain(300, 7));
        Check.edge("Promise 4: a longer one takes the place of a shorter", () -> letAgain(7, 300));
        Check.edge("Promise 4: what comes on the tape later is not let", TapeEdgesTest::letStays);
        Check.edge("Promise 4: IllegalArgumentException: another which", TapeEdgesTest::letNoWhich);
        Check.edge("Promise 4: another which, and an empty tape", TapeEdgesTest::letNoWhichEmpty);
    }

    private static void emptyTape() {
        Check.same("wipe()", new SpongeDesk().wipe(), 0);
        Check.same("feed(1, 0)", new SpongeDesk().feed(1, 0), 1);
        Check.same("let(0)", new SpongeDesk().let(0), 0);
        Check.same("absorb(0)", new SpongeDesk().absorb(0), 0);
        Edges.tapeIs("the tape", new SpongeDesk(), new byte[0]);
    }

    private static void emptyNameAndCustom() {
        for (int kind = 6; kind < 16; kind++) {
            String due = Edges.ended(Edges.begun(kind), kind).out(24);
            Check.same("kind " + kind, Rows.squeeze(Edges.deskEnded(kind), 0, 24), due);
        }
    }

    private static void emptyKey() {
        for (int kind = 8; kind < 12; kind++) {
            SpongeDesk once = Edges.deskWith(kind);
            SpongeDesk let = new SpongeDesk();
            let.let(2);
            let.begin(0, kind);
            once.end(0, Edges.LENGTHS[kind]);
            let.end(0, Edges.LENGTHS[kind]);
            String due = Edges.ended(Edges.begun(kind), kind).out(24);
            Check.same("kind " + kind, Rows.squeeze(once, 0, 24), due);
            Check.same("kind " + kind + ", let to be empty", Rows.squeeze(let, 0, 24), due);
        }
    }

    private static void justBegun() {
        SpongeDesk desk = new SpongeDesk();
        for (int k = 0; k < 4; k++) {
            int sponge = k;
            Check.same("left(" + k + ")", desk.left(k), -1);
            Check.refused("squeeze(" + k + ", 1)", Edges.STATE, () -> desk.squeeze(sponge, 1));
            Check.same("absorb(" + k + ")", desk.absorb(k), 0);
            Check.same("bytes(" + k + ", 1, 0)", desk.bytes(k, 1, 0), 1);
        }
    }

    private static void begunWithKind0() {
        String due = new PlainSponge(144).end(6).out(28);
        SpongeDesk desk = new SpongeDesk();
        for (int k = 0; k < 4; k++) {
            Check.same("kind(" + k + ")", desk.kind(k), 0);
            desk.end(k, 28);
            Check.same("what comes out of " + k, Rows.squeeze(desk, k, 28), due);
        }
    }

    private static void nothingOfAnother() {
        SpongeDesk used = new SpongeDesk();
        for (int which = 0; which < 3; which++) {
            Rows.let(used, which, Rows.odd(20, which));
            used.begin(which, 8);
            used.end(which, 9);
        }
        Rows.feed(used, Rows.odd(20, 3));
        SpongeDesk desk = new SpongeDesk();
        Check.same("the tape", desk.wipe(), 0);
        Check.same("kind(2)", desk.kind(2), 0);
        String due = Edges.ended(Edges.begun(8), 8).out(24);
        Check.same("custom and key", Edges.madeOfTape(desk, 8), due);
        Check.same("the tape of the one before", used.wipe(), 20);
        Check.same("kind(2) of the one before", used.kind(2), 24);
    }

    private static void sideBySide() {
        SpongeDesk one = Edges.deskWith(4);
        SpongeDesk other = Edges.deskWith(5);
        for (int n = 1; n <= 8; n++) {
            one.feed(n, LONG);
            other.feed(9 - n, ~LONG);
            one.bytes(0, n, LONG);
            other.bytes(0, 9 - n, ~LONG);
        }
        byte[] due = {};
        byte[] otherDue = {};
        for (int n = 1; n <= 8; n++) {
            due = Model.join(due, Model.lowest(n, LONG));
            otherDue = Model.join(otherDue, Model.lowest(9 - n, ~LONG));
        }
        one.end(0, 0);
        other.end(0, 0);
        String dueOut = new PlainSponge(168).in(due).end(31).out(24);
        String otherOut = new PlainSponge(136).in(otherDue).end(31).out(24);
        for (int from = 0; from < 24; from += 8) {
            Check.same("one", Rows.hex(Model.lowest(8, one.squeeze(0, 8))), dueOut.substring(2 * from, 2 * from + 16));
            Check.same("the other", Rows.hex(Model.lowest(8, other.squeeze(0, 8))),
                otherOut.substring(2 * from, 2 * from + 16));
        }
        Edges.tapeIs("the tape of one", one, due);
        Edges.tapeIs("the tape of the other", other, otherDue);
    }

    private static void feedEachSize() {
        for (int n = 1; n <= 8; n++) {
            SpongeDesk desk = new SpongeDesk();
            Check.same("feed(" + n + ")", desk.feed(n, LONG), n);
            Edges.tapeIs("feed(" + n + ")", desk, Rows.upFrom(0xF1, n));
        }
    }

    private static void feedOne() {
        SpongeDesk desk = new SpongeDesk();
        Check.same("feed(1, -256)", desk.feed(1, -256L), 1);
        Check.same("feed(1, 0x1FF)", desk.feed(1, 0x1FFL), 2);
        Edges.tapeIs("single bytes", desk, Rows.ofHex("00ff"));
    }

    private static void feedEight() {
        SpongeDesk desk = new SpongeDesk();
        Check.same("the least long", desk.feed(8, Long.MIN_VALUE), 8);
        Check.same("the greatest long", desk.feed(8, Long.MAX_VALUE), 16);
        Edges.tapeIs("all eight bytes", desk, Rows.ofHex("0000000000000080ffffffffffffff7f"));
    }

    private static void feedSameBytes() {
        SpongeDesk desk = new SpongeDesk();
        Check.same("eight bytes 0", desk.feed(8, 0L), 8);
        Check.same("one byte 0", desk.feed(1, 0L), 9);
        Check.same("eight bytes 255", desk.feed(8, -1L), 17);
        Check.same("one byte 255", desk.feed(1, -1L), 18);
        Edges.tapeIs("0 and 255", desk, Rows.ofHex("000000000000000000ffffffffffffffffff"));
    }

    private static void feedBehind() {
        SpongeDesk desk = new SpongeDesk();
        byte[] due = {};
        for (int n = 8; n >= 1; n--) {
            due = Model.join(due, Rows.upFrom(0xF1, n));
            Check.same("feed(" + n + ")", desk.feed(n, LONG), due.length);
        }
        Edges.tapeIs("the tape", desk, due);
    }

    private static void feedToFull() {
        for (int n = 1; n <= 8; n++) {
            byte[] tape = Rows.odd(300, n);
            SpongeDesk desk = Edges.deskWithTape(Arrays.copyOf(tape, 300 - n));
            Check.same("the last " + n, desk.feed(n, Rows.asLong(tape, 300 - n, n)), 300);
            Edges.tapeIs("the last " + n, desk, tape);
        }
    }

    private static void feedTooMany() {
        for (int n = 1; n <= 8; n++) {
            for (int size = 301 - n; size <= 300; size++) {
                byte[] tape = Rows.odd(size, n);
                SpongeDesk desk = Edges.deskWithTape(tape);
                Check.same(n + " behind " + size, desk.feed(n, LONG), -1);
                Edges.tapeIs(n + " behind " + size, desk, tape);
                Check.same(n + " behind " + size + ": still so many", desk.wipe(), size);
            }
        }
    }

    private static void feedFull() {
        SpongeDesk desk = Edges.deskWithTape(Rows.odd(300, 1));
        for (int times = 0; times < 3; times++) {
            for (int n = 1; n <= 8; n++) {
                Check.same(n + " behind 300", desk.feed(n, LONG), -1);
            }
        }
        Edges.tapeIs("the full tape", desk, Rows.odd(300, 1));
    }

    private static void feedBehindNone() {
        byte[] tape = Rows.odd(300, 2);
        SpongeDesk desk = Edges.deskWithTape(Arrays.copyOf(tape, 297));
        Check.same("8 behind 297", desk.feed(8, LONG), -1);
        Check.same("4 behind 297", desk.feed(4, LONG), -1);
        Check.same("2 behind 297", desk.feed(2, Rows.asLong(tape, 297, 2)), 299);
        Check.same("2 behind 299", desk.feed(2, LONG), -1);
        Check.same("1 behind 299", desk.feed(1, Rows.asLong(tape, 299, 1)), 300);
        Edges.tapeIs("the tape", desk, tape);
        desk.wipe();
        Check.same("behind a wipe", desk.feed(8, LONG), 8);
    }

    private static void feedNoSize() {
        for (int n : Edges.NO_SIZE) {
            SpongeDesk desk = Edges.deskWithTape(Rows.of("ab"));
            Check.refused("feed(" + n + ")", Edges.ARGUMENT, () -> desk.feed(n, LONG));
            Edges.tapeIs("the tape behind feed(" + n + ")", desk, Rows.of("ab"));
        }
    }

    private static void feedNoSizeFull() {
        SpongeDesk desk = Edges.deskWithTape(Rows.odd(300, 4));
        for (int n : Edges.NO_SIZE) {
            Check.refused("feed(" + n + ")", Edges.ARGUMENT, () -> desk.feed(n, LONG));
        }
        Edges.tapeIs("the full tape", desk, Rows.odd(300, 4));
    }

    private static void wipeEmpty() {
        SpongeDesk desk = new SpongeDesk();
        Check.same("wipe() of a new one", desk.wipe(), 0);
        Check.same("wipe() again", desk.wipe(), 0);
        desk.feed(3, LONG);
        desk.let(1);
        Check.same("wipe() behind let", desk.wipe(), 0);
        Check.same("feed behind it", desk.feed(2, LONG), 2);
    }

    private static void wipeOf(int size) {
        SpongeDesk desk = Edges.deskWithTape(Rows.odd(size, 1));
        Check.same("wipe()", desk.wipe(), size);
        Check.same("wipe() again", desk.wipe(), 0);
    }

    private static void wipedTapeComesIn() {
        SpongeDesk desk = Edges.deskWithTape(Rows.odd(50, 1));
        desk.wipe();
        Check.same("absorb(1)", desk.absorb(1), 0);
        Check.same("let(0)", desk.let(0), 0);
        Edges.tapeIs("the tape", desk, new byte[0]);
        Check.same("feed(1, 0)", desk.feed(1, 0), 1);
    }

    private static void wipedBytesAreGone() {
        SpongeDesk desk = Edges.deskWithTape(Rows.odd(300, 1));
        desk.wipe();
        Rows.feed(desk, Rows.of("new"));
        Edges.tapeIs("the tape", desk, Rows.of("new"));
        Check.same("how many", desk.wipe(), 3);
        Rows.feed(desk, Rows.odd(300, 2));
        Edges.tapeIs("a full one again", desk, Rows.odd(300, 2));
    }

    private static void wipeLeavesWhatWasLet() {
        for (int which = 0; which < 3; which++) {
            SpongeDesk desk = Edges.deskWithTape(Rows.odd(5, which));
            desk.let(which);
            desk.wipe();
            isLet("let(" + which + "), an empty tape wiped", desk, which, Rows.odd(5, which));
            Rows.feed(desk, Rows.odd(9, 4));
            desk.wipe();
            isLet("let(" + which + "), a tape wiped", desk, which, Rows.odd(5, which));
        }
    }

    private static void wipeLeavesTheSponges() {
        SpongeDesk desk = Edges.deskWithTape(Rows.of("abc"));
        desk.begin(0, 4);
        desk.absorb(0);
        desk.wipe();
        Check.same("the count", desk.absorb(0), 3);
        desk.end(0, 0);
        String due = new PlainSponge(168).in(Rows.of("abc")).end(31).out(24);
        Check.same("what comes out", Rows.squeeze(desk, 0, 24), due);
    }

    /** Name, custom and key of one byte each, told apart by where they come in. */
    private static void letEach() {
        SpongeDesk desk = new SpongeDesk();
        desk.feed(1, 'n');
        Check.same("let(0)", desk.let(0), 1);
        desk.feed(1, 'c');
        Check.same("let(1)", desk.let(1), 1);
        desk.feed(1, 'k');
        Check.same("let(2)", desk.let(2), 1);
        PlainSponge named = new PlainSponge(168).in("01a801086e010863").fill();
        Check.same("name and custom", Edges.madeOfTape(desk, 6), named.end(4).out(24));
        PlainSponge keyed = new PlainSponge(136).in("018801204b4d4143010863").fill().in("018801086b").fill();
        Check.same("custom and key", Edges.madeOfTape(desk, 11), keyed.in("0001").end(4).out(24));
    }

    private static void letEmpty() {
        for (int which = 0; which < 3; which++) {
            SpongeDesk desk = new SpongeDesk();
            Check.same("let(" + which + ") of a new one", desk.let(which), 0);
            desk.feed(5, LONG);
            Check.same("let(" + which + ") of 5", desk.let(which), 5);
            Check.same("let(" + which + ") of none", desk.let(which), 0);
            for (int kind : new int[] {6, 8, 12}) {
                String due = Edges.ended(Edges.begun(kind).in(Edges.ofTape(kind, new byte[0])), kind).out(24);
                Check.same("let(" + which + ") is empty, kind " + kind, Edges.madeOfTape(desk, kind), due);
            }
        }
    }

    private static void letOf(int size) {
        for (int which = 0; which < 3; which++) {
            SpongeDesk desk = Edges.deskWithTape(Rows.odd(size, which));
            Check.same("let(" + which + ")", desk.let(which), size);
            isLet("let(" + which + ")", desk, which, Rows.odd(size, which));
        }
    }

    /** That one of the three is a row, and the two others are empty. */
    private static void isLet(String what, SpongeDesk desk, int which, byte[] row) {
        int kind = which == 2 ? 10 : 7;
        PlainSponge sponge = new PlainSponge(Edges.WIDTHS[kind]);
        String empty = "0100";
        if (which == 0) {
            sponge.in("0188").in(Model.string(row)).in(empty);
        } else if (which == 1) {
            sponge.in("0188").in(empty).in(Model.string(row));
        } else {
            sponge.in(Edges.beginning(kind)).in(empty).fill().in("01a8").in(Model.string(row));
        }
        Check.same(what, Edges.madeOfTape(desk, kind), Edges.closed(sponge.fill(), kind).end(4).out(24));
    }

    private static void letEmptiesTheTape() {
        for (int which = 0; which < 3; which++) {
            SpongeDesk desk = Edges.deskWithTape(Rows.odd(300, which));
            desk.let(which);
            Check.same("absorb(3)", desk.absorb(3), 0);
            Check.same("feed(8)", desk.feed(8, LONG), 8);
            Edges.tapeIs("the tape", desk, Rows.upFrom(0xF1, 8));
            Check.same("wipe()", desk.wipe(), 8);
        }
    }

    private static void letAgain(int before, int now) {
        for (int which = 0; which < 3; which++) {
            SpongeDesk desk = Edges.deskWithTape(Rows.odd(before, which));
            Check.same("let(" + which + ")", desk.let(which), before);
            Rows.feed(desk, Rows.odd(now, which));
            Check.same("let(" + which + ") again", desk.let(which), now);
            isLet("let(" + which + ") again", desk, which, Rows.odd(now, which));
        }
    }

    private static void letStays() {
        for (int which = 0; which < 3; which++) {
            SpongeDesk desk = Edges.deskWithTape(Rows.odd(40, which));
            desk.let(which);
            Rows.feed(desk, Rows.odd(60, 9));
            desk.wipe();
            isLet("let(" + which + ")", desk, which, Rows.odd(40, which));
        }
    }

    private static void letNoWhich() {
        for (int which : NO_WHICH) {
            SpongeDesk desk = Edges.deskWithTape(Rows.of("abc"));
            Check.refused("let(" + which + ")", Edges.ARGUMENT, () -> desk.let(which));
            Edges.tapeIs("the tape behind let(" + which + ")", desk, Rows.of("abc"));
        }
    }

    private static void letNoWhichEmpty() {
        SpongeDesk desk = new SpongeDesk();
        for (int which : NO_WHICH) {
            Check.refused("let(" + which + ")", Edges.ARGUMENT, () -> desk.let(which));
        }
        Check.same("the tape", desk.wipe(), 0);
    }
}
