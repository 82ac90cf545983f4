/** What the tests of the boundary cases share: what lies beyond the bounds, and the kinds written out. */
final class Edges {
    static final Class<?> INDEX = IndexOutOfBoundsException.class;
    static final Class<?> ARGUMENT = IllegalArgumentException.class;
    static final Class<?> STATE = IllegalStateException.class;

    static final int[] NO_SPONGE = {-1, 4, 5, 7, 256, -4, Integer.MIN_VALUE, Integer.MAX_VALUE};
    static final int[] NO_KIND = {-1, 16, 17, 31, 256, -16, Integer.MIN_VALUE, Integer.MAX_VALUE};
    static final int[] NO_SIZE = {0, 9, -1, -8, 10, 16, 257, Integer.MIN_VALUE, Integer.MAX_VALUE};

    static final int[] WIDTHS = {144, 136, 104, 72, 168, 136, 168, 136, 168, 136, 168, 136, 168, 136, 168, 136};
    /** A length that each kind ends with: where it is chosen, the greatest one. */
    static final int[] LENGTHS = {28, 32, 48, 64, 0, 0, 0, 0, 1000, 1000, 0, 0, 1000, 1000, 0, 0};
    static final int[] CHOSEN_KINDS = {8, 9, 12, 13};
    static final int[] ENDLESS_KINDS = {4, 5, 6, 7, 10, 11, 14, 15};

    private Edges() {
    }

    /** LEFT(w), written out. */
    static String leftOfWidth(int kind) {
        return WIDTHS[kind] == 168 ? "01a8" : "0188";
    }

    /** LEFT(w) and the STRING of KMAC or TupleHash, with which the kinds 8 to 15 begin, written out. */
    static String beginning(int kind) {
        return leftOfWidth(kind) + (kind < 12 ? "01204b4d4143" : "01485475706c6548617368");
    }

    /** A sponge that has begun with a kind, while name, custom and key are empty. */
    static PlainSponge begun(int kind) {
        PlainSponge sponge = new PlainSponge(WIDTHS[kind]);
        if (kind >= 8) {
            sponge.in(beginning(kind)).in("0100").fill();
        }
        if (kind >= 8 && kind < 12) {
            sponge.in(leftOfWidth(kind)).in("0100").fill();
        }
        return sponge;
    }

    /** What comes in before the ending with the length of LENGTHS, written out. */
    static PlainSponge closed(PlainSponge sponge, int kind) {
        return kind < 8 ? sponge : sponge.in(LENGTHS[kind] == 0 ? "0001" : "1f4002");
    }

    /** The ending of a kind, of 6 and 7 while name and custom are empty. */
    static PlainSponge ended(PlainSponge sponge, int kind) {
        return closed(sponge, kind).end(kind < 4 ? 6 : kind < 8 ? 31 : 4);
    }

    /** What a tape brings into a sponge of a kind. */
    static byte[] ofTape(int kind, byte[] tape) {
        return kind < 12 ? tape : Model.string(tape);
    }

    /** How many bytes of a row are compared: all that the digests have, or enough of the others. */
    static int some(int kind) {
        return kind < 4 ? LENGTHS[kind] : 24;
    }

    static SpongeDesk deskWithTape(byte[] tape) {
        SpongeDesk desk = new SpongeDesk();
        Rows.feed(desk, tape);
        return desk;
    }

    static SpongeDesk deskWith(int kind) {
        SpongeDesk desk = new SpongeDesk();
        desk.begin(0, kind);
        return desk;
    }

    static SpongeDesk deskEnded(int kind, int length) {
        SpongeDesk desk = deskWith(kind);
        desk.end(0, length);
        return desk;
    }

    static SpongeDesk deskEnded(int kind) {
        return deskEnded(kind, LENGTHS[kind]);
    }

    /** What sponge 0 of a kind makes of a desk's tape, with its name, custom and key. */
    static String madeOfTape(SpongeDesk desk, int kind) {
        desk.begin(0, kind);
        desk.absorb(0);
        desk.end(0, LENGTHS[kind]);
        return Rows.squeeze(desk, 0, some(kind));
    }

    /** What is on the tape shows in what comes out behind it. */
    static void tapeIs(String what, SpongeDesk desk, byte[] due) {
        Check.same(what, madeOfTape(desk, 4), ended(begun(4).in(due), 4).out(24));
    }
}
