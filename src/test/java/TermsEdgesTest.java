/** The boundary cases that "What it is" and "Terms" name, each by itself. */
public final class TermsEdgesTest {
    /** Sizes of rows and LEFT(8 times the size), written out. */
    private static final int[] SIZES = {0, 1, 2, 15, 16, 31, 32, 33, 63, 64, 255, 256, 299, 300};
    private static final String[] LEFTS = {
        "0100", "0108", "0110", "0178", "0180", "01f8", "020100", "020108", "0201f8", "020200", "0207f8", "020800",
        "020958", "020960"
    };
    private static final int NAME = 0;
    private static final int CUSTOM = 1;
    private static final int KEY = 2;

    public static void main(String[] args) {
        theObject();
        theSponge();
        theNumbers();
        theKinds();
        Check.close();
    }

    private static void theObject() {
        Check.edge("What it is: the 512th call answers still", TermsEdgesTest::lastCall);
        Check.edge("What it is: as many bytes as 512 calls can bring are counted", TermsEdgesTest::mostBytes);
        Check.edge("What it is: four sponges, each by itself", TermsEdgesTest::fourSponges);
        Check.edge("The public face: NONE is -1", () -> Check.same("NONE", SpongeDesk.NONE, -1));
    }

    private static void theSponge() {
        Check.edge("Terms: the state of 0, permuted (of the yardstick itself)", TermsEdgesTest::yardstick);
        Check.edge("Terms: x and y modulo 5, z modulo 64", TermsEdgesTest::bitsAtTheRims);
        Check.edge("Terms: the state and the place are 0 at first", TermsEdgesTest::zeroAtFirst);
        Check.edge("Terms: at w the place becomes 0, bytes come in", TermsEdgesTest::widthFullOfBytes);
        Check.edge("Terms: at w the place becomes 0, tapes come in", TermsEdgesTest::widthFullOfTapes);
        Check.edge("Terms: at w the place becomes 0, one byte at a time", TermsEdgesTest::widthFullByOnes);
        Check.edge("Terms: ENDING of nothing, the place being 0", TermsEdgesTest::endingOfNothing);
        Check.edge("Terms: ENDING behind a full width, the place being 0", () -> endingAt(0));
        Check.edge("Terms: ENDING where the place is 1", () -> endingAt(1));
        Check.edge("Terms: ENDING where the place is 2", () -> endingAt(2));
        Check.edge("Terms: ENDING where the place is w - 2", () -> endingAt(-2));
        Check.edge("Terms: ENDING where the place is w - 1: d and 128 in one byte", () -> endingAt(-1));
        Check.edge("Terms: behind ENDING the place is 0", TermsEdgesTest::firstByteOut);
        Check.edge("Terms: the last byte of a width comes out", TermsEdgesTest::lastByteOfWidth);
        Check.edge("Terms: a byte comes out behind the last one of a width", TermsEdgesTest::behindTheWidth);
        Check.edge("Terms: bytes come out over the rim of a width", TermsEdgesTest::overTheRim);
        Check.edge("Terms: permuted when the next byte is to come out", TermsEdgesTest::permutedWithTheNext);
    }

    private static void theNumbers() {
        Check.edge("Terms: LEFT of 0, one byte, two bytes, of a tape", TermsEdgesTest::leftOfTapes);
        Check.edge("Terms: LEFT of 0, one byte, two bytes, of the name", TermsEdgesTest::leftOfNames);
        Check.edge("Terms: LEFT of 0, one byte, two bytes, of the custom", TermsEdgesTest::leftOfCustoms);
        Check.edge("Terms: LEFT of 0, one byte, two bytes, of the key", TermsEdgesTest::leftOfKeys);
        Check.edge("Terms: RIGHT of 0", TermsEdgesTest::rightOfZero);
        Check.edge("Terms: RIGHT of one byte", () -> {
            rightOf(1, "0801");
            rightOf(2, "1001");
            rightOf(16, "8001");
            rightOf(31, "f801");
        });
        Check.edge("Terms: RIGHT of two bytes", () -> {
            rightOf(32, "010002");
            rightOf(33, "010802");
            rightOf(255, "07f802");
            rightOf(256, "080002");
            rightOf(1000, "1f4002");
        });
        Check.edge("Terms: PAD of a row that just fills w", () -> padTo(1, 0));
        Check.edge("Terms: PAD of a row that lacks one byte of w", () -> padTo(1, -1));
        Check.edge("Terms: PAD of a row with one byte more than w", () -> padTo(1, 1));
        Check.edge("Terms: PAD of a row that just fills 2 w", () -> padTo(2, 0));
        Check.edge("Terms: PAD of a row that lacks one byte of 2 w", () -> padTo(2, -1));
        Check.edge("Terms: PAD of a row with one byte more than 2 w", () -> padTo(2, 1));
        Check.edge("Terms: PAD of the longest rows", TermsEdgesTest::padOfTheLongest);
    }

    private static void theKinds() {
        Check.edge("Terms: 0 to 5 bring nothing in first, whatever was let", TermsEdgesTest::nothingFirst);
        Check.edge("Terms: 6 and 7, name and custom both empty, are as 4 and 5", TermsEdgesTest::bothEmpty);
        Check.edge("Terms: 6 and 7, both empty again", TermsEdgesTest::bothEmptyAgain);
        Check.edge("Terms: 6 and 7, the name alone empty", () -> oneEmpty(CUSTOM));
        Check.edge("Terms: 6 and 7, the custom alone empty", () -> oneEmpty(NAME));
        Check.edge("Terms: 6 and 7, neither empty", TermsEdgesTest::neitherEmpty);
        Check.edge("Terms: 8 to 11 with an empty key and an empty custom", () -> nothingLet(8, 11));
        Check.edge("Terms: 12 to 15 with an empty custom", () -> nothingLet(12, 15));
        Check.edge("Terms: the name is not for 8 to 15", TermsEdgesTest::nameIsNotForThese);
        Check.edge("Terms: the key is not for 6, 7 and 12 to 15", TermsEdgesTest::keyIsNotForThese);
        Check.edge("Terms: of 12 to 15 STRING(tape) comes in, of others the tape", TermsEdgesTest::whereTapesMeet);
        Check.edge("Terms: a tape with 0 bytes", () -> tapeOf(0));
        Check.edge("Terms: a tape with 300 bytes", () -> tapeOf(300));
    }

    private static void lastCall() {
        SpongeDesk desk = new SpongeDesk();
        desk.begin(3, 5);
        desk.end(3, 0);
        for (int call = 3; call <= 511; call++) {
            desk.squeeze(3, 8);
        }
        String due = Edges.ended(Edges.begun(5), 5).out(510 * 8).substring(509 * 16);
        Check.same("the 512th call", Rows.hex(Model.lowest(8, desk.squeeze(3, 8))), due);
    }

    private static void mostBytes() {
        SpongeDesk desk = Edges.deskWithTape(Rows.odd(300, 1));
        for (int call = 39; call <= 511; call++) {
            Check.same("call " + call, desk.absorb(2), 300 * (call - 38));
        }
        Check.same("call 512", desk.absorb(2), 300 * 474);
    }

    private static void fourSponges() {
        SpongeDesk desk = new SpongeDesk();
        for (int k = 0; k < 4; k++) {
            desk.begin(k, 4 + k % 2);
            Check.same("sponge " + k, desk.bytes(k, k + 1, 0x0102030405L), k + 1);
        }
        for (int k = 3; k >= 0; k--) {
            desk.end(k, 0);
        }
        for (int k = 0; k < 4; k++) {
            int kind = 4 + k % 2;
            String due = Edges.ended(Edges.begun(kind).in(Model.lowest(k + 1, 0x0102030405L)), kind).out(24);
            Check.same("sponge " + k, Rows.squeeze(desk, k, 24), due);
        }
    }

    /** The first bytes that are published of this permutation of 0. */
    private static void yardstick() {
        Check.same("the permutation of 0", new PlainSponge(168).in(new byte[168]).out(32),
            "e7dde140798f25f18a47c033f9ccd584eea95aa61e2698d54d49806f304715bd");
    }

    /** One bit alone, at the ends of every lane that bytes reach, goes round all rims in what follows. */
    private static void bitsAtTheRims() {
        for (int lane = 0; lane < 21; lane++) {
            for (int z : new int[] {0, 1, 7, 8, 62, 63}) {
                byte[] row = new byte[168];
                row[8 * lane + z / 8] = (byte) (1 << z % 8);
                SpongeDesk desk = Edges.deskWith(4);
                Rows.bytes(desk, 0, row, 8);
                desk.end(0, 0);
                String due = Edges.ended(Edges.begun(4).in(row), 4).out(24);
                Check.same("bit " + z + " of lane " + lane, Rows.squeeze(desk, 0, 24), due);
            }
        }
    }

    private static void zeroAtFirst() {
        for (int kind = 0; kind < 16; kind++) {
            SpongeDesk desk = Edges.deskWithTape(Rows.odd(75, kind));
            String due = Edges.ended(Edges.begun(kind).in(Edges.ofTape(kind, Rows.odd(75, kind))), kind)
                .out(Edges.some(kind));
            Check.same("begun at first, kind " + kind, Edges.madeOfTape(desk, kind), due);
            Check.same("begun behind an end, kind " + kind, Edges.madeOfTape(desk, kind), due);
            desk.begin(0, kind);
            desk.absorb(0);
            Check.same("begun in the middle, kind " + kind, Edges.madeOfTape(desk, kind), due);
        }
    }

    private static void widthFullOfBytes() {
        for (int kind = 0; kind < 12; kind++) {
            int w = Edges.WIDTHS[kind];
            for (int size : new int[] {w - 1, w, w + 1, 2 * w - 1, 2 * w, 2 * w + 1}) {
                for (int step : new int[] {8, 7, 5}) {
                    byte[] row = Rows.odd(size, kind);
                    SpongeDesk desk = Edges.deskWith(kind);
                    Rows.bytes(desk, 0, row, step);
                    desk.end(0, Edges.LENGTHS[kind]);
                    String due = Edges.ended(Edges.begun(kind).in(row), kind).out(Edges.some(kind));
                    Check.same("kind " + kind + ", " + size + " bytes by " + step,
                        Rows.squeeze(desk, 0, Edges.some(kind)), due);
                }
            }
        }
    }

    private static void widthFullOfTapes() {
        for (int kind = 0; kind < 16; kind++) {
            int w = Edges.WIDTHS[kind];
            for (int size : new int[] {w - 4, w - 3, w - 2, w - 1, w, w + 1}) {
                byte[] tape = Rows.odd(size, kind);
                SpongeDesk desk = Edges.deskWithTape(tape);
                desk.begin(0, kind);
                desk.absorb(0);
                desk.absorb(0);
                desk.end(0, Edges.LENGTHS[kind]);
                byte[] row = Edges.ofTape(kind, tape);
                String due = Edges.ended(Edges.begun(kind).in(row).in(row), kind).out(Edges.some(kind));
                Check.same("kind " + kind + ", two tapes of " + size, Rows.squeeze(desk, 0, Edges.some(kind)), due);
            }
        }
    }

    private static void widthFullByOnes() {
        for (int kind = 0; kind < 12; kind++) {
            byte[] row = Rows.odd(2 * Edges.WIDTHS[kind], kind);
            SpongeDesk desk = Edges.deskWith(kind);
            Rows.bytes(desk, 0, row, 1);
            desk.end(0, Edges.LENGTHS[kind]);
            String due = Edges.ended(Edges.begun(kind).in(row), kind).out(Edges.some(kind));
            Check.same("kind " + kind + " by single bytes", Rows.squeeze(desk, 0, Edges.some(kind)), due);
        }
    }

    private static void endingOfNothing() {
        for (int kind = 0; kind < 16; kind++) {
            String due = Edges.ended(Edges.begun(kind), kind).out(Edges.some(kind));
            Check.same("kind " + kind, Rows.squeeze(Edges.deskEnded(kind), 0, Edges.some(kind)), due);
        }
    }

    /** Tapes of all sizes that bring the place there, counted from behind if it is negative. */
    private static void endingAt(int wanted) {
        for (int kind = 0; kind < 16; kind++) {
            int place = wanted < 0 ? Edges.WIDTHS[kind] + wanted : wanted;
            int right = kind < 8 ? 0 : Edges.LENGTHS[kind] == 0 ? 2 : 3;
            for (int size = 1; size <= 300; size++) {
                byte[] tape = Rows.odd(size, kind);
                if ((Edges.ofTape(kind, tape).length + right) % Edges.WIDTHS[kind] == place) {
                    endingBehind(kind, tape, place);
                }
            }
        }
    }

    private static void endingBehind(int kind, byte[] tape, int place) {
        PlainSponge sponge = Edges.closed(Edges.begun(kind).in(Edges.ofTape(kind, tape)), kind);
        Check.same("place before the ending", sponge.place(), place);
        String due = sponge.end(kind < 4 ? 6 : kind < 8 ? 31 : 4).out(Edges.some(kind));
        Check.same("kind " + kind + " behind " + tape.length, Edges.madeOfTape(Edges.deskWithTape(tape), kind), due);
    }

    private static void firstByteOut() {
        for (int kind = 0; kind < 16; kind++) {
            for (int size = 1; size <= 9; size++) {
                byte[] tape = Rows.odd(size, kind);
                SpongeDesk desk = Edges.deskWithTape(tape);
                desk.begin(0, kind);
                desk.absorb(0);
                desk.end(0, Edges.LENGTHS[kind]);
                String due = Edges.ended(Edges.begun(kind).in(Edges.ofTape(kind, tape)), kind).out(1);
                Check.same("kind " + kind + " behind " + size, Rows.squeeze(desk, 0, 1), due);
            }
        }
    }

    private static void lastByteOfWidth() {
        for (int kind = 4; kind < 16; kind++) {
            int w = Edges.WIDTHS[kind];
            String due = Edges.ended(Edges.begun(kind), kind).out(w);
            SpongeDesk desk = Edges.deskEnded(kind);
            Check.same("kind " + kind + ", all but one", Rows.squeeze(desk, 0, w - 1), due.substring(0, 2 * w - 2));
            Check.same("kind " + kind + ", the last one", Rows.squeeze(desk, 0, 1), due.substring(2 * w - 2));
        }
    }

    private static void behindTheWidth() {
        for (int kind = 4; kind < 16; kind++) {
            int w = Edges.WIDTHS[kind];
            String due = Edges.ended(Edges.begun(kind), kind).out(2 * w + 1);
            SpongeDesk desk = Edges.deskEnded(kind);
            for (int from = 0; from < w; from += 8) {
                desk.squeeze(0, 8);
            }
            Check.same("kind " + kind + ", behind w", Rows.squeeze(desk, 0, 1), due.substring(2 * w, 2 * w + 2));
            Check.same("kind " + kind + ", the rest of 2 w", Rows.squeeze(desk, 0, w - 1),
                due.substring(2 * w + 2, 4 * w));
            Check.same("kind " + kind + ", behind 2 w", Rows.squeeze(desk, 0, 1), due.substring(4 * w));
        }
    }

    private static void overTheRim() {
        for (int kind = 4; kind < 16; kind++) {
            int w = Edges.WIDTHS[kind];
            String due = Edges.ended(Edges.begun(kind), kind).out(w + 8);
            for (int before = 1; before <= 8; before++) {
                SpongeDesk desk = Edges.deskEnded(kind);
                Rows.squeeze(desk, 0, w - before);
                Check.same("kind " + kind + ", " + before + " before the rim",
                    Rows.hex(Model.lowest(8, desk.squeeze(0, 8))),
                    due.substring(2 * (w - before), 2 * (w - before) + 16));
            }
        }
    }

    /** Copied and compared just where the width has all come out, when nothing more is asked for yet. */
    private static void permutedWithTheNext() {
        for (int kind = 4; kind < 16; kind++) {
            int w = Edges.WIDTHS[kind];
            String due = Edges.ended(Edges.begun(kind), kind).out(w + 9).substring(2 * w);
            SpongeDesk desk = Edges.deskEnded(kind);
            Rows.squeeze(desk, 0, w);
            desk.copy(1, 0);
            Check.yes("kind " + kind + ", compared at w", desk.same(0, 1, 64));
            Check.same("kind " + kind + ", at w", Rows.squeeze(desk, 0, 9), due);
            Check.same("kind " + kind + ", the copy at w", Rows.squeeze(desk, 1, 9), due);
        }
    }

    private static void leftOfTapes() {
        for (int kind = 12; kind < 16; kind++) {
            for (int at = 0; at < SIZES.length; at++) {
                byte[] tape = Rows.odd(SIZES[at], kind);
                String due = Edges.ended(Edges.begun(kind).in(LEFTS[at]).in(tape), kind).out(24);
                Check.same("kind " + kind + ", a tape of " + SIZES[at],
                    Edges.madeOfTape(Edges.deskWithTape(tape), kind), due);
            }
        }
    }

    private static void leftOfNames() {
        for (int kind = 6; kind < 8; kind++) {
            for (int at = 1; at < SIZES.length; at++) {
                byte[] name = Rows.odd(SIZES[at], kind);
                PlainSponge sponge = new PlainSponge(Edges.WIDTHS[kind]).in(Edges.leftOfWidth(kind));
                String due = sponge.in(LEFTS[at]).in(name).in("0100").fill().end(4).out(24);
                Check.same("kind " + kind + ", a name of " + SIZES[at], madeOfNothing(kind, NAME, name), due);
            }
        }
    }

    private static void leftOfCustoms() {
        for (int kind = 6; kind < 16; kind++) {
            for (int at = kind < 8 ? 1 : 0; at < SIZES.length; at++) {
                byte[] custom = Rows.odd(SIZES[at], kind);
                PlainSponge sponge = new PlainSponge(Edges.WIDTHS[kind]);
                sponge.in(kind < 8 ? Edges.leftOfWidth(kind) + "0100" : Edges.beginning(kind));
                sponge.in(LEFTS[at]).in(custom).fill();
                if (kind >= 8 && kind < 12) {
                    sponge.in(Edges.leftOfWidth(kind)).in("0100").fill();
                }
                String due = Edges.closed(sponge, kind).end(4).out(24);
                Check.same("kind " + kind + ", a custom of " + SIZES[at], madeOfNothing(kind, CUSTOM, custom), due);
            }
        }
    }

    private static void leftOfKeys() {
        for (int kind = 8; kind < 12; kind++) {
            for (int at = 0; at < SIZES.length; at++) {
                byte[] key = Rows.odd(SIZES[at], kind);
                PlainSponge sponge = new PlainSponge(Edges.WIDTHS[kind]).in(Edges.beginning(kind)).in("0100").fill();
                sponge.in(Edges.leftOfWidth(kind)).in(LEFTS[at]).in(key).fill();
                String due = Edges.ended(sponge, kind).out(24);
                Check.same("kind " + kind + ", a key of " + SIZES[at], madeOfNothing(kind, KEY, key), due);
            }
        }
    }

    private static String madeOfNothing(int kind, int which, byte[] row) {
        SpongeDesk desk = new SpongeDesk();
        Rows.let(desk, which, row);
        desk.begin(0, kind);
        desk.end(0, Edges.LENGTHS[kind]);
        return Rows.squeeze(desk, 0, 24);
    }

    private static void rightOfZero() {
        for (int kind : new int[] {10, 11, 14, 15}) {
            String due = Edges.begun(kind).in("0001").end(4).out(24);
            Check.same("kind " + kind, Rows.squeeze(Edges.deskEnded(kind, 0), 0, 24), due);
        }
    }

    private static void rightOf(int length, String right) {
        for (int kind : Edges.CHOSEN_KINDS) {
            int count = Math.min(length, 24);
            String due = Edges.begun(kind).in(right).end(4).out(count);
            Check.same("kind " + kind + ", length " + length,
                Rows.squeeze(Edges.deskEnded(kind, length), 0, count), due);
        }
    }

    /** LEFT(w) and the row have so many widths, and so many bytes more; where such a row can be let. */
    private static void padTo(int widths, int more) {
        for (int kind = 6; kind < 16; kind++) {
            int total = widths * Edges.WIDTHS[kind] + more;
            if (kind < 8) {
                padOfNameAndCustom(kind, total);
            } else {
                padOfCustom(kind, total);
            }
            if (kind >= 8 && kind < 12) {
                padOfKey(kind, total);
            }
        }
    }

    private static void padOfNameAndCustom(int kind, int total) {
        for (int nameSize : new int[] {32, 40, 64}) {
            byte[] name = Rows.odd(nameSize, kind);
            byte[] custom = Rows.odd(total - 2 - 3 - nameSize - 3, kind);
            SpongeDesk desk = new SpongeDesk();
            Rows.let(desk, NAME, name);
            Rows.let(desk, CUSTOM, custom);
            PlainSponge sponge = new PlainSponge(Edges.WIDTHS[kind]).in(Edges.leftOfWidth(kind));
            sponge.in(Model.string(name)).in(Model.string(custom));
            Check.same("place behind the row", sponge.place(), total % Edges.WIDTHS[kind]);
            String due = sponge.fill().end(4).out(24);
            desk.begin(0, kind);
            desk.end(0, 0);
            Check.same("kind " + kind + ", name of " + nameSize + " and all " + total, Rows.squeeze(desk, 0, 24), due);
        }
    }

    private static void padOfCustom(int kind, int total) {
        int size = total - Edges.beginning(kind).length() / 2 - 3;
        if (size > 300) {
            return;
        }
        byte[] custom = Rows.odd(size, kind);
        PlainSponge sponge = new PlainSponge(Edges.WIDTHS[kind]).in(Edges.beginning(kind)).in(Model.string(custom));
        Check.same("place behind the row", sponge.place(), total % Edges.WIDTHS[kind]);
        sponge.fill();
        if (kind < 12) {
            sponge.in(Edges.leftOfWidth(kind)).in("0100").fill();
        }
        String due = Edges.ended(sponge, kind).out(24);
        Check.same("kind " + kind + ", custom of " + size, madeOfNothing(kind, CUSTOM, custom), due);
    }

    private static void padOfKey(int kind, int total) {
        int size = total - 2 - 3;
        if (size > 300) {
            return;
        }
        byte[] key = Rows.odd(size, kind);
        PlainSponge sponge = new PlainSponge(Edges.WIDTHS[kind]).in(Edges.beginning(kind)).in("0100").fill();
        sponge.in(Edges.leftOfWidth(kind)).in(Model.string(key));
        Check.same("place behind the row", sponge.place(), total % Edges.WIDTHS[kind]);
        String due = Edges.ended(sponge.fill(), kind).out(24);
        Check.same("kind " + kind + ", key of " + size, madeOfNothing(kind, KEY, key), due);
    }

    private static void padOfTheLongest() {
        for (int kind = 6; kind < 16; kind++) {
            SpongeDesk desk = new SpongeDesk();
            Rows.let(desk, NAME, Rows.odd(300, 0));
            Rows.let(desk, CUSTOM, Rows.odd(300, 1));
            Rows.let(desk, KEY, Rows.odd(300, 2));
            PlainSponge sponge = new PlainSponge(Edges.WIDTHS[kind]);
            if (kind < 8) {
                sponge.in(Edges.leftOfWidth(kind)).in("020960").in(Rows.odd(300, 0));
            } else {
                sponge.in(Edges.beginning(kind));
            }
            sponge.in("020960").in(Rows.odd(300, 1)).fill();
            if (kind >= 8 && kind < 12) {
                sponge.in(Edges.leftOfWidth(kind)).in("020960").in(Rows.odd(300, 2)).fill();
            }
            desk.begin(0, kind);
            desk.end(0, Edges.LENGTHS[kind]);
            Check.same("kind " + kind, Rows.squeeze(desk, 0, 24), Edges.closed(sponge, kind).end(4).out(24));
        }
    }

    private static void nothingFirst() {
        for (int kind = 0; kind < 6; kind++) {
            SpongeDesk desk = new SpongeDesk();
            for (int which = 0; which < 3; which++) {
                Rows.let(desk, which, Rows.odd(40, which));
            }
            desk.begin(0, kind);
            desk.end(0, Edges.LENGTHS[kind]);
            String due = Edges.ended(Edges.begun(kind), kind).out(Edges.some(kind));
            Check.same("kind " + kind, Rows.squeeze(desk, 0, Edges.some(kind)), due);
        }
    }

    private static void bothEmpty() {
        for (int kind = 6; kind < 8; kind++) {
            SpongeDesk desk = new SpongeDesk();
            Rows.let(desk, KEY, Rows.of("a key does not count"));
            Rows.feed(desk, Rows.of("abc"));
            desk.begin(1, kind);
            desk.begin(2, kind - 2);
            desk.absorb(1);
            desk.absorb(2);
            desk.end(1, 0);
            desk.end(2, 0);
            Check.yes("kinds " + kind + " and " + (kind - 2), desk.same(1, 2, 64));
            String due = new PlainSponge(Edges.WIDTHS[kind]).in(Rows.of("abc")).end(31).out(200);
            Check.same("kind " + kind, Rows.squeeze(desk, 1, 200), due);
        }
    }

    private static void bothEmptyAgain() {
        for (int kind = 6; kind < 8; kind++) {
            SpongeDesk desk = new SpongeDesk();
            Rows.let(desk, NAME, Rows.of("name"));
            Rows.let(desk, CUSTOM, Rows.of("custom"));
            desk.let(NAME);
            desk.let(CUSTOM);
            String due = new PlainSponge(Edges.WIDTHS[kind]).end(31).out(24);
            Check.same("kind " + kind, Edges.madeOfTape(desk, kind), due);
        }
    }

    private static void oneEmpty(int which) {
        for (int kind = 6; kind < 8; kind++) {
            PlainSponge sponge = new PlainSponge(Edges.WIDTHS[kind]).in(Edges.leftOfWidth(kind));
            String due = sponge.in(which == NAME ? "01087a0100" : "010001087a").fill().end(4).out(24);
            Check.same("kind " + kind, madeOfNothing(kind, which, Rows.of("z")), due);
        }
    }

    private static void neitherEmpty() {
        for (int kind = 6; kind < 8; kind++) {
            SpongeDesk desk = new SpongeDesk();
            Rows.let(desk, NAME, Rows.of("y"));
            Rows.let(desk, CUSTOM, Rows.of("z"));
            PlainSponge sponge = new PlainSponge(Edges.WIDTHS[kind]).in(Edges.leftOfWidth(kind));
            String due = sponge.in("01087901087a").fill().end(4).out(24);
            Check.same("kind " + kind, Edges.madeOfTape(desk, kind), due);
        }
    }

    private static void nothingLet(int first, int last) {
        for (int kind = first; kind <= last; kind++) {
            String due = Edges.ended(Edges.begun(kind), kind).out(200);
            Check.same("kind " + kind, Rows.squeeze(Edges.deskEnded(kind), 0, 200), due);
        }
    }

    private static void nameIsNotForThese() {
        for (int kind = 8; kind < 16; kind++) {
            String due = Edges.ended(Edges.begun(kind), kind).out(24);
            Check.same("kind " + kind, madeOfNothing(kind, NAME, Rows.of("a name")), due);
        }
    }

    private static void keyIsNotForThese() {
        for (int kind : new int[] {6, 7, 12, 13, 14, 15}) {
            String due = Edges.ended(Edges.begun(kind), kind).out(24);
            Check.same("kind " + kind, madeOfNothing(kind, KEY, Rows.of("a key")), due);
        }
    }

    /** The same bytes, in tapes that meet elsewhere. */
    private static void whereTapesMeet() {
        for (int kind = 0; kind < 16; kind++) {
            SpongeDesk desk = new SpongeDesk();
            takeTapes(desk, 1, kind, "ab", "c");
            takeTapes(desk, 2, kind, "a", "bc");
            takeTapes(desk, 3, kind, "abc", "");
            Check.same("kind " + kind, (Object) desk.same(1, 2, 28), (Object) (kind < 12));
            Check.same("kind " + kind + ", an empty tape", (Object) desk.same(1, 3, 28), (Object) (kind < 12));
        }
    }

    private static void takeTapes(SpongeDesk desk, int k, int kind, String... tapes) {
        desk.begin(k, kind);
        for (String tape : tapes) {
            desk.wipe();
            Rows.feed(desk, Rows.of(tape));
            desk.absorb(k);
        }
        desk.end(k, Edges.LENGTHS[kind]);
    }

    private static void tapeOf(int size) {
        for (int kind = 0; kind < 16; kind++) {
            byte[] tape = Rows.odd(size, kind);
            SpongeDesk desk = new SpongeDesk();
            Rows.feed(desk, tape);
            String due = Edges.ended(Edges.begun(kind).in(Edges.ofTape(kind, tape)), kind).out(Edges.some(kind));
            Check.same("kind " + kind, Edges.madeOfTape(desk, kind), due);
            Check.same("kind " + kind + ", the tape", desk.wipe(), size);
        }
    }
}
