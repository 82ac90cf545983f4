import java.security.MessageDigest;
import java.security.NoSuchAlgorithmException;

/** The kinds against digests of the Java library and against published samples of the others. */
public final class StandardsTest {
    private static final byte[] SHORT = Rows.upFrom(0, 4);
    private static final byte[] LONG = Rows.upFrom(0, 200);
    private static final byte[] KEY = Rows.upFrom(0x40, 32);
    private static final byte[] NOTHING = {};

    public static void main(String[] args) throws NoSuchAlgorithmException {
        String[] names = {"SHA3-224", "SHA3-256", "SHA3-384", "SHA3-512"};
        for (int kind = 0; kind < names.length; kind++) {
            digestsOfAllLengths(kind, MessageDigest.getInstance(names[kind]));
        }
        endless();
        named();
        keyed();
        tuples();
        Check.close();
    }

    private static void digestsOfAllLengths(int kind, MessageDigest digest) {
        for (int length = 0; length <= 300; length++) {
            byte[] message = Rows.odd(length, kind);
            String due = Rows.hex(digest.digest(message));
            int size = due.length() / 2;
            SpongeDesk desk = new SpongeDesk();
            desk.begin(1, kind);
            Rows.feed(desk, message);
            desk.absorb(1);
            desk.end(1, size);
            Check.same("kind " + kind + " of a tape of " + length, Rows.squeeze(desk, 1, size), due);
            desk.begin(2, kind);
            Rows.bytes(desk, 2, message, 1 + length % 8);
            desk.end(2, size);
            Check.same("kind " + kind + " of " + length + " bytes", Rows.squeeze(desk, 2, size), due);
        }
    }

    private static void endless() {
        due(4, NOTHING, "", "", NOTHING, 0, "7F9C2BA4E88F827D616045507605853ED73B8093F6EFBC88EB1A6EACFA66EF26");
        due(5, NOTHING, "", "", NOTHING, 0, "46B9DD2B0BA88D13233B3FEB743EEB243FCD52EA62B81B82B50C27646ED5762F"
            + "D75DC4DDD8C0F200CB05019D67B592F6FC821C49479AB48640292EACB3B7C4BE");
        due(6, NOTHING, "", "", NOTHING, 0, "7F9C2BA4E88F827D616045507605853ED73B8093F6EFBC88EB1A6EACFA66EF26");
        due(7, NOTHING, "", "", NOTHING, 0, "46B9DD2B0BA88D13233B3FEB743EEB243FCD52EA62B81B82B50C27646ED5762F"
            + "D75DC4DDD8C0F200CB05019D67B592F6FC821C49479AB48640292EACB3B7C4BE");
    }

    private static void named() {
        due(6, NOTHING, "", "Email Signature", SHORT, 0,
            "C1C36925B6409A04F1B504FCBCA9D82B4017277CB5ED2B2065FC1D3814D5AAF5");
        due(6, NOTHING, "", "Email Signature", LONG, 0,
            "C5221D50E4F822D96A2E8881A961420F294B7B24FE3D2094BAED2C6524CC166B");
        due(7, NOTHING, "", "Email Signature", SHORT, 0,
            "D008828E2B80AC9D2218FFEE1D070C48B8E4C87BFF32C9699D5B6896EEE0EDD1"
            + "64020E2BE0560858D9C00C037E34A96937C561A74C412BB4C746469527281C8C");
    }

    private static void keyed() {
        due(8, KEY, "", "", SHORT, 32, "E5780B0D3EA6F7D3A429C5706AA43A00FADBD7D49628839E3187243F456EE14E");
        due(8, KEY, "", "My Tagged Application", SHORT, 32,
            "3B1FBA963CD8B0B59E8C1A6D71888B7143651AF8BA0A7070C0979E2811324AA5");
        due(8, KEY, "", "My Tagged Application", LONG, 32,
            "1F5B4E6CCA02209E0DCB5CA635B89A15E271ECC760071DFD805FAA38F9729230");
        due(9, KEY, "", "My Tagged Application", SHORT, 64,
            "20C570C31346F703C9AC36C61C03CB64C3970D0CFC787E9B79599D273A68D2F7"
            + "F69D4CC3DE9D104A351689F27CF6F5951F0103F33F4F24871024D9C27773A8DD");
        due(10, KEY, "", "", SHORT, 0, "CD83740BBD92CCC8CF032B1481A0F4460E7CA9DD12B08A0C4031178BACD6EC35");
        due(11, KEY, "", "My Tagged Application", SHORT, 0,
            "1755133F1534752AAD0748F2C706FB5C784512CAB835CD15676B16C0C6647FA9"
            + "6FAA7AF634A0BF8FF6DF39374FA00FAD9A39E322A7C92065A64EB1FB0801EB2B");
    }

    private static void tuples() {
        byte[] one = Rows.upFrom(0, 3);
        byte[] two = Rows.upFrom(0x10, 6);
        byte[] three = Rows.upFrom(0x20, 9);
        tuple(12, "", 32, "C5D8786C1AFB9B82111AB34B65B2C0048FA64E6D48E263264CE1707D3FFC8ED1", one, two);
        tuple(12, "My Tuple App", 32, "75CDB20FF4DB1154E841D758E24160C54BAE86EB8C13E7F5F40EB35588E96DFB", one, two);
        tuple(12, "My Tuple App", 32, "E60F202C89A2631EDA8D4C588CA5FD07F39E5151998DECCF973ADB3804BB6E84",
            one, two, three);
        tuple(13, "", 64, "CFB7058CACA5E668F81A12A20A2195CE97A925F1DBA3E7449A56F82201EC6073"
            + "11AC2696B1AB5EA2352DF1423BDE7BD4BB78C9AED1A853C78672F9EB23BBE194", one, two);
        tuple(14, "", 0, "2F103CD7C32320353495C68DE1A8129245C6325F6F2A3D608D92179C96E68488", one, two);
        tuple(15, "", 0, "03DED4610ED6450A1E3F8BC44951D14FBC384AB0EFE57B000DF6B6DF5AAE7CD5"
            + "68E77377DAF13F37EC75CF5FC598B6841D51DD207C991CD45D210BA60AC52EB9", one, two);
    }

    private static void due(int kind, byte[] key, String name, String custom, byte[] message, int length, String hex) {
        tell(kind, key, name, custom, length, hex, message);
    }

    private static void tuple(int kind, String custom, int length, String hex, byte[]... tapes) {
        tell(kind, NOTHING, "", custom, length, hex, tapes);
    }

    private static void tell(int kind, byte[] key, String name, String custom, int length, String hex,
            byte[]... tapes) {
        SpongeDesk desk = new SpongeDesk();
        Rows.let(desk, 0, Rows.of(name));
        Rows.let(desk, 1, Rows.of(custom));
        Rows.let(desk, 2, key);
        desk.begin(3, kind);
        for (byte[] tape : tapes) {
            Rows.feed(desk, tape);
            desk.absorb(3);
            desk.wipe();
        }
        desk.end(3, length);
        Check.same("kind " + kind + ", custom '" + custom + "'", Rows.squeeze(desk, 3, hex.length() / 2),
            hex.toLowerCase());
    }
}
