/** One method a promise: ordinary calls, the edges that the document names, and wrong inputs. */
public final class PlaceNetPromisesTest {
    private static final Check check = new Check();
    private static final int LOW = Integer.MIN_VALUE;
    private static final int HIGH = Integer.MAX_VALUE;

    private static final int REGISTER = 0;
    private static final int REQUEST = 1;
    private static final int REPLY = 2;
    private static final int DATA = 3;
    private static final int SOLICIT = 4;

    private static final int WAITS = 0;
    private static final int UNDER_WAY = 1;
    private static final int DELIVERED = 2;
    private static final int UNREACHABLE = 3;
    private static final int LOST = 4;

    public static void main(String[] args) {
        promise1();
        promise2();
        promise3();
        promise4();
        promise5();
        promise6();
        promise6Refusals();
        promise6Entries();
        promise7();
        promise7Pieces();
        promise7Full();
        promise8();
        promise8Replies();
        promise8Data();
        promise8Solicits();
        promise9();
        promise10();
        promise11();
        promise12();
        promise13();
        promise14();
        promise15();
        promise15Referrals();
        promise16();
        promise17();
        promise18();
        check.end();
    }

    /** A site asks with a packet for the endpoint; the REPLY that comes is compared and dropped. */
    private static void isReply(String what, PlaceNet x, int s, int endpoint, int... due) {
        int p = x.send(s, endpoint);
        check.same(what + " waits", x.packet(p, 0), WAITS);
        x.run(1);
        for (int i = 0; i < 5; i++) {
            check.same(what + ": field " + (i + 1), x.message(0, i + 1), due[i]);
        }
        x.drop(0);
    }

    private static void promise1() {
        check.about("promise 1");
        PlaceNet x = new PlaceNet();
        for (int what = 0; what <= 8; what++) {
            check.same("count(" + what + ")", x.count(what), 0);
        }
        for (int s = 0; s < 8; s++) {
            int site = s;
            check.bad("register of a site that isn't there", () -> x.register(site));
            if (s > 0) {
                check.bad("no server but 0", () -> x.delegate(site, 7 - site == 0 ? 1 : 7, 0, 1));
            }
        }
        check.out("no message", () -> x.message(0, 0));
        check.bad("no packet", () -> x.packet(1, 0));
        check.same("run(1000)", x.run(1000), 0);
        check.same("truth(0)", x.truth(0), -1);
        check.fine("server 0 is there with all endpoints", () -> x.delegate(0, 1, LOW, 1));
        PlaceNet y = new PlaceNet();
        check.fine("another object shares nothing", () -> y.delegate(0, 1, LOW, 1));
    }

    private static void promise2() {
        check.about("promise 2");
        PlaceNet x = new PlaceNet();
        check.fine("0x10/4", () -> x.delegate(0, 3, 0x10000000, 4));
        check.bad("the child is there", () -> x.delegate(0, 3, 0x20000000, 4));
        check.bad("server 0 is there", () -> x.delegate(3, 0, 0x11000000, 8));
        check.bad("itself", () -> x.delegate(0, 0, 0x20000000, 4));
        check.bad("the parent isn't there", () -> x.delegate(4, 5, 0x20000000, 4));
        check.bad("parent -1", () -> x.delegate(-1, 5, 0x20000000, 4));
        check.bad("parent 8", () -> x.delegate(8, 5, 0x20000000, 4));
        check.bad("child -1", () -> x.delegate(0, -1, 0x20000000, 4));
        check.bad("child 8", () -> x.delegate(0, 8, 0x20000000, 4));
        check.bad("extreme parent", () -> x.delegate(LOW, HIGH, 0x20000000, 4));
        check.bad("length -1", () -> x.delegate(0, 5, 0, -1));
        check.bad("length 33", () -> x.delegate(0, 5, 0, 33));
        check.bad("extreme length", () -> x.delegate(0, 5, 0, LOW));
        check.bad("bits behind the length", () -> x.delegate(0, 5, 0x21000000, 4));
        check.bad("bits with length 0", () -> x.delegate(0, 5, LOW, 0));
        check.bad("the whole of server 0", () -> x.delegate(0, 5, 0, 0));
        check.bad("the whole of server 3", () -> x.delegate(3, 5, 0x10000000, 4));
        check.bad("a child's part", () -> x.delegate(0, 5, 0x10000000, 4));
        check.bad("in a child's part", () -> x.delegate(0, 5, 0x12000000, 8));
        check.bad("round a child's part", () -> x.delegate(0, 5, 0, 3));
        check.bad("not in the parent's part", () -> x.delegate(3, 5, 0x20000000, 8));
        check.bad("round the parent's part", () -> x.delegate(3, 5, 0, 2));
        check.fine("in the child", () -> x.delegate(3, 5, 0x12000000, 8));
        check.bad("the grandchild's, of the child", () -> x.delegate(3, 6, 0x12340000, 16));
        check.fine("one endpoint, the last", () -> x.delegate(0, 7, -1, 32));
        check.fine("the upper half but one endpoint is not whole", () -> x.delegate(0, 1, LOW, 2));
        check.bad("round one endpoint", () -> x.delegate(0, 2, LOW, 1));
        check.fine("last server", () -> x.delegate(5, 2, 0x12345678, 32));
        PlaceNet y = new PlaceNet();
        check.fine("one half", () -> y.delegate(0, 1, 0, 1));
        check.fine("the other half", () -> y.delegate(0, 2, LOW, 1));
        check.bad("nothing is left", () -> y.delegate(0, 3, 5, 32));
    }

    private static void promise3() {
        check.about("promise 3");
        PlaceNet x = new PlaceNet();
        check.fine("site 0", () -> x.site(0, 15));
        check.fine("site 7", () -> x.site(7, 0));
        check.bad("again", () -> x.site(0, 3));
        check.bad("place taken", () -> x.site(1, 15));
        check.bad("place taken too", () -> x.site(1, 0));
        check.bad("site -1", () -> x.site(-1, 3));
        check.bad("site 8", () -> x.site(8, 3));
        check.bad("place -1", () -> x.site(1, -1));
        check.bad("place 16", () -> x.site(1, 16));
        check.bad("extremes", () -> x.site(LOW, HIGH));
        check.bad("it did not come", () -> x.register(1));
        check.same("it is there", x.register(7), 0);
        x.move(0, 3);
        check.fine("a place that was left", () -> x.site(1, 15));
    }

    private static void promise4() {
        check.about("promise 4");
        PlaceNet x = new PlaceNet();
        x.site(0, 0);
        x.site(1, 1);
        x.delegate(0, 1, 0x10000000, 4);
        x.delegate(1, 2, 0x12000000, 8);
        check.bad("not there", () -> x.prefix(2, 0, 8));
        check.bad("site -1", () -> x.prefix(-1, 0, 8));
        check.bad("site 8", () -> x.prefix(8, 0, 8));
        check.bad("length 33", () -> x.prefix(0, 0, 33));
        check.bad("length -1", () -> x.prefix(0, 0, -1));
        check.bad("no prefix", () -> x.prefix(0, 1, 31));
        check.bad("all endpoints, of three servers", () -> x.prefix(0, 0, 0));
        check.bad("a part with a child", () -> x.prefix(0, 0x10000000, 4));
        check.bad("of 0 and 1", () -> x.prefix(0, 0, 3));
        check.same("first", x.prefix(0, 0x12000000, 8), 0);
        check.bad("the very same", () -> x.prefix(0, 0x12000000, 8));
        check.bad("the very same, another site", () -> x.prefix(1, 0x12000000, 8));
        check.same("inside it, another site", x.prefix(1, 0x12000000, 9), 0);
        check.same("second", x.prefix(0, 0x13000000, 8), 1);
        check.same("third", x.prefix(0, LOW, 1), 2);
        check.same("fourth", x.prefix(0, -1, 32), 3);
        check.bad("fifth", () -> x.prefix(0, 0, 8));
        check.same("nothing was kept of it", x.prefix(1, 0, 8), 1);
        PlaceNet y = new PlaceNet();
        y.site(5, 5);
        check.same("all endpoints of server 0", y.prefix(5, 0, 0), 0);
    }

    private static void promise5() {
        check.about("promise 5");
        PlaceNet x = new PlaceNet();
        x.site(0, 0);
        x.site(1, 1);
        check.bad("not there", () -> x.move(2, 5));
        check.bad("site -1", () -> x.move(-1, 5));
        check.bad("site 8", () -> x.move(8, 5));
        check.bad("place -1", () -> x.move(0, -1));
        check.bad("place 16", () -> x.move(0, 16));
        check.bad("another site there", () -> x.move(0, 1));
        check.bad("itself there", () -> x.move(0, 0));
        check.fine("place 15", () -> x.move(0, 15));
        check.fine("the place left is free", () -> x.move(1, 0));
        check.bad("the place taken isn't", () -> x.move(1, 15));
        x.prefix(0, 0, 8);
        x.register(0);
        check.same("its place from now on", x.message(0, 3), 15);
    }

    private static void promise6() {
        check.about("promise 6");
        PlaceNet x = new PlaceNet();
        check.bad("not there", () -> x.register(0));
        check.bad("site 8", () -> x.register(8));
        check.bad("site -1", () -> x.register(-1));
        x.site(2, 9);
        check.same("without prefixes", x.register(2), 0);
        x.delegate(0, 1, 0x10000000, 4);
        x.prefix(2, 0x12000000, 8);
        x.prefix(2, 0x20000000, 4);
        x.prefix(2, -1, 32);
        check.same("three", x.register(2), 3);
        check.isMessage("first", x, 0, 2, 0x12000000, 8, 9, 1, Calls.tagOf(2, 0x12000000, 8, 9, 1), REGISTER, 1);
        check.isMessage("second", x, 1, 2, 0x20000000, 4, 9, 2, Calls.tagOf(2, 0x20000000, 4, 9, 2), REGISTER, 0);
        check.isMessage("third", x, 2, 2, -1, 32, 9, 3, Calls.tagOf(2, -1, 32, 9, 3), REGISTER, 0);
        x.delegate(1, 3, 0x12340000, 16);
        x.delegate(0, 4, 0x20000000, 4);
        x.move(2, 4);
        check.same("one was torn by a delegation", x.register(2), 2);
        check.isMessage("the child's now", x, 3, 2, 0x20000000, 4, 4, 4, Calls.tagOf(2, 0x20000000, 4, 4, 4), REGISTER, 4);
        check.isMessage("no nonce was lost", x, 4, 2, -1, 32, 4, 5, Calls.tagOf(2, -1, 32, 4, 5), REGISTER, 0);
        x.site(3, 3);
        x.prefix(3, 0x30000000, 8);
        x.register(3);
        check.same("each site has its own nonces", x.message(5, 4), 1);
        PlaceNet y = new PlaceNet();
        y.site(0, 3);
        y.prefix(0, 268435456, 8);
        y.register(0);
        check.same("a tag, as in the shared test (server apart)", y.message(0, 5), -1062783077);
    }

    private static PlaceNet withRegister() {
        PlaceNet x = new PlaceNet();
        x.site(0, 0);
        x.site(1, 1);
        x.delegate(0, 1, 0x10000000, 4);
        x.prefix(0, 0x20000000, 8);
        x.register(0);
        return x;
    }

    private static void isRefused(String what, int refused, int... said) {
        PlaceNet x = withRegister();
        Calls.forgeRegister(x, 0, said);
        x.carry(0);
        check.same(what + ": refused", x.count(1), refused);
        check.same(what + ": entries", x.count(7), 1 - refused);
    }

    private static void promise6Refusals() {
        check.about("REGISTER");
        isRefused("as sent", 0, 0, 0x20000000, 8, 0, 1);
        isRefused("another site, that is there", 0, 1, 0x20000000, 8, 0, 1);
        isRefused("a site that isn't there", 1, 2, 0x20000000, 8, 0, 1);
        isRefused("site -1", 1, -1, 0x20000000, 8, 0, 1);
        isRefused("site 8", 1, 8, 0x20000000, 8, 0, 1);
        isRefused("place 15", 0, 0, 0x20000000, 8, 15, 1);
        isRefused("place 16", 1, 0, 0x20000000, 8, 16, 1);
        isRefused("place -1", 1, 0, 0x20000000, 8, -1, 1);
        isRefused("no prefix", 1, 0, 0x20000001, 8, 0, 1);
        isRefused("length 33", 1, 0, 0, 33, 0, 1);
        isRefused("length -1", 1, 0, 0, -1, 0, 1);
        isRefused("of a child", 1, 0, 0x11000000, 8, 0, 1);
        isRefused("round a child's", 1, 0, 0, 0, 0, 1);
        isRefused("any own prefix", 0, 0, LOW, 1, 0, 1);
        isRefused("any first nonce", 0, 0, 0x20000000, 8, 0, LOW);
        for (int i = 0; i < 6; i++) {
            PlaceNet x = withRegister();
            x.forge(0, i, x.message(0, i) ^ 1);
            x.carry(0);
            check.same("field " + i + " changed, the tag not", x.count(1), 1);
        }
        nonces();
    }

    private static void nonces() {
        PlaceNet x = withRegister();
        x.repeat(0);
        x.run(1);
        x.run(1);
        check.same("the same nonce again", x.count(1), 1);
        x.register(0);
        x.register(0);
        x.carry(1);
        x.carry(0);
        check.same("an older nonce later", x.count(1), 2);
        x.register(0);
        Calls.forgeRegister(x, 0, 0, 0x10000000, 4, 0, 100);
        x.run(1);
        check.same("refused", x.count(1), 3);
        x.register(0);
        x.run(1);
        check.same("a refused nonce is not taken", x.count(1), 3);
        x.prefix(0, 0x11000000, 8);
        x.register(0);
        x.carry(1);
        x.carry(0);
        check.same("each server has its own", x.count(1), 3);
        x.register(0);
        Calls.forgeRegister(x, 0, 1, 0x30000000, 8, 1, 1);
        x.run(1);
        check.same("each site's are its own", x.count(1), 3);
    }

    private static void promise6Entries() {
        check.about("ENTRIES");
        PlaceNet x = withRegister();
        x.run(1);
        x.register(0);
        Calls.forgeRegister(x, 0, 1, 0x20000000, 8, 1, 1);
        x.run(1);
        check.same("another site's", x.count(1), 1);
        check.same("it stays", x.truth(0x20000000), 0);
        x.pass(179);
        check.same("not lapsed at 179", x.count(7), 1);
        x.register(0);
        Calls.forgeRegister(x, 0, 1, 0x20000000, 8, 1, 2);
        x.run(1);
        check.same("still another site's", x.count(1), 2);
        x.pass(1);
        check.same("lapsed at 180", x.count(7), 0);
        x.register(0);
        Calls.forgeRegister(x, 0, 1, 0x20000000, 8, 1, 3);
        x.run(1);
        check.same("free when it lapsed", x.count(1), 2);
        check.same("the other site's now", x.truth(0x20000000), 1);
        x.pass(100);
        x.register(0);
        Calls.forgeRegister(x, 0, 1, 0x20000000, 8, 5, 4);
        x.run(1);
        x.pass(179);
        check.same("made anew it lasts anew", x.count(7), 1);
        isReply("place and version of the newest", x, 1, 0x20FFFFFF, 1, 0x20000000, 8, 5, 4);
        sixteen();
    }

    private static void sixteen() {
        PlaceNet x = withRegister();
        for (int i = 1; i < 200; i++) {
            x.repeat(0);
        }
        for (int i = 0; i < 16; i++) {
            Calls.forgeRegister(x, 0, 0, 0x20000000 + (i << 16), 16, 0, i + 1);
            x.run(1);
        }
        check.same("sixteen", x.count(7), 16);
        check.same("none refused", x.count(1), 0);
        Calls.forgeRegister(x, 0, 0, 0x21000000, 16, 0, 17);
        x.run(1);
        check.same("the seventeenth", x.count(1), 1);
        Calls.forgeRegister(x, 0, 0, 0x20070000, 16, 3, 17);
        x.run(1);
        check.same("one of the sixteen again", x.count(1), 1);
        x.pass(100);
        Calls.forgeRegister(x, 0, 0, 0x20080000, 16, 3, 18);
        x.run(1);
        x.pass(80);
        check.same("fifteen lapsed", x.count(7), 1);
        for (int i = 0; i < 15; i++) {
            Calls.forgeRegister(x, 0, 0, 0x30000000 + (i << 16), 16, 0, 19 + i);
            x.run(1);
        }
        check.same("lapsed ones don't count", x.count(7), 16);
        check.same("all were taken", x.count(1), 1);
        Calls.forgeRegister(x, 0, 0, 0x31000000, 16, 0, 99);
        x.run(1);
        check.same("full again", x.count(1), 2);
        x.prefix(1, 0x10000000, 8);
        x.register(1);
        x.carry(x.count(0) - 1);
        check.same("server 1 has room of its own", x.count(7), 17);
    }

    private static void promise7() {
        check.about("promise 7");
        PlaceNet x = new PlaceNet();
        check.bad("not there", () -> x.send(0, 0));
        check.bad("site -1", () -> x.send(-1, 0));
        check.bad("site 8", () -> x.send(8, 0));
        x.site(3, 3);
        x.prefix(3, 0x20000000, 8);
        check.same("first number", x.send(3, 0x20123456), 1);
        check.same("delivered at itself", x.packet(1, 0), DELIVERED);
        check.same("there", x.packet(1, 1), 3);
        check.same("once", x.packet(1, 3), 1);
        check.same("no message", x.count(0), 0);
        check.same("second number", x.send(3, 0x21000000), 2);
        check.same("waits", x.packet(2, 0), WAITS);
        int g = Calls.nextDraw(1);
        check.isMessage("request", x, 0, 3, g, 0x21000000, 0, 0, 0, REQUEST, 0);
        check.same("third number", x.send(3, -1), 3);
        g = Calls.nextDraw(g);
        check.isMessage("the next nonce", x, 1, 3, g, -1, 0, 0, 0, REQUEST, 0);
        x.run(4);
        check.same("a hole", x.packet(2, 0), UNREACHABLE);
        check.same("another hole", x.packet(3, 0), UNREACHABLE);
        check.same("fourth", x.send(3, 0x21000001), 4);
        check.same("unreachable by the note", x.packet(4, 0), UNREACHABLE);
        check.same("nothing was asked", x.count(0), 0);
        x.pass(60);
        x.send(3, 0x21000001);
        check.same("the note has gone", x.packet(5, 0), WAITS);
        g = Calls.nextDraw(g);
        check.same("no nonce was drawn between", x.message(0, 1), g);
    }

    private static void promise7Pieces() {
        check.about("PIECE");
        PlaceNet x = new PlaceNet();
        x.site(0, 4);
        x.site(1, 1);
        isReply("an empty tree", x, 0, 77, 2, 0, 0, 0, 0);
        x.delegate(0, 1, 0x40000000, 2);
        isReply("a referral", x, 0, 0x40000000, 0, 0x40000000, 2, 1, 0);
        isReply("the last of it", x, 0, 0x7FFFFFFF, 0, 0x40000000, 2, 1, 0);
        isReply("a hole beside a part", x, 0, 0, 2, 0, 2, 0, 0);
        isReply("the other half", x, 0, -1, 2, LOW, 1, 0, 0);
        x.prefix(1, LOW, 4);
        x.prefix(1, 0x88000000, 8);
        x.prefix(1, 0x88000000, 32);
        x.register(1);
        x.run(3);
        isReply("beside the inner one", x, 0, LOW, 1, LOW, 5, 1, 1);
        isReply("in the outer one alone", x, 0, 0x8C000000, 1, 0x8C000000, 6, 1, 1);
        isReply("beside the one endpoint", x, 0, 0x88000001, 1, 0x88000001, 32, 1, 2);
        isReply("in the second", x, 0, 0x88800000, 1, 0x88800000, 9, 1, 2);
        isReply("the endpoint itself", x, 0, 0x88000000, 1, 0x88000000, 32, 1, 3);
        isReply("a hole beside entries", x, 0, 0x90000000, 2, 0x90000000, 4, 0, 0);
        isReply("a hole far from them", x, 0, 0xC0000000, 2, 0xC0000000, 2, 0, 0);
        x.delegate(0, 2, 0x84000000, 8);
        isReply("an entry with a child in it", x, 0, LOW, 1, LOW, 6, 1, 1);
        x.pass(180);
        isReply("lapsed ones count no more", x, 0, 0x88000000, 2, 0x88000000, 5, 0, 0);
        isReply("the child's part does", x, 0, LOW, 2, LOW, 6, 0, 0);
        x.send(0, 0x84000001);
        x.run(2);
        check.same("goes to the child", x.message(0, 7), 2);
        x.run(1);
        check.isMessage("the whole part", x, 0, x.message(0, 0), 2, 0x84000000, 8, 0, 0, REPLY, 0);
        requests();
    }

    private static void requests() {
        check.about("REQUEST");
        PlaceNet x = new PlaceNet();
        x.site(0, 0);
        x.send(0, 5);
        x.forge(0, 0, 1);
        x.run(1);
        check.same("its site isn't there", x.count(0), 0);
        x.send(0, 5);
        x.forge(0, 0, -1);
        x.run(1);
        check.same("site -1", x.count(0), 0);
        x.delegate(0, 1, 0x40000000, 2);
        x.send(0, 0x40000000);
        x.run(2);
        check.same("to server 1", x.message(0, 7), 1);
        x.forge(0, 2, LOW);
        x.run(1);
        check.same("not in its part", x.count(0), 0);
        x.send(0, 0x40000000);
        x.run(1);
        x.forge(0, 4, 7);
        x.run(1);
        check.same("to a server that isn't there", x.message(0, 7), 7);
        x.run(1);
        check.same("it does nothing", x.count(0), 0);
        check.same("the packet waits on", x.packet(4, 0), WAITS);
    }

    private static void promise7Full() {
        check.about("200 packets");
        PlaceNet x = new PlaceNet();
        x.site(0, 0);
        x.prefix(0, 0, 0);
        for (int i = 1; i <= 200; i++) {
            check.same("number", x.send(0, i), i);
        }
        check.raises("the 201st", IllegalStateException.class, () -> x.send(0, 1));
        check.raises("of a site that isn't there", IllegalStateException.class, () -> x.send(1, 1));
        check.same("packets", x.count(5), 200);
        check.same("the last", x.packet(200, 0), DELIVERED);
        check.bad("no more", () -> x.packet(201, 0));
    }

    private static void promise8() {
        check.about("promise 8");
        PlaceNet x = withRegister();
        check.out("-1", () -> x.carry(-1));
        check.out("1 of 1", () -> x.carry(1));
        check.out("extreme", () -> x.carry(HIGH));
        x.send(0, 1);
        x.send(0, 2);
        x.send(0, 3);
        x.carry(2);
        check.same("it is there no more, its reply is", x.count(0), 4);
        check.same("first", x.message(0, 6), REGISTER);
        check.same("second", x.message(1, 2), 1);
        check.same("third", x.message(2, 2), 3);
        check.same("newest", x.message(3, 6), REPLY);
        x.carry(0);
        check.same("the oldest", x.count(7), 1);
        check.same("then", x.message(0, 2), 1);
        x.carry(2);
        check.same("the newest", x.packet(2, 0), UNREACHABLE);
        PlaceNet y = withRegister();
        for (int i = 0; i < 50; i++) {
            y.carry(0);
            y.register(0);
            y.send(1, i);
            y.drop(1);
        }
        check.same("round and round", y.message(0, 4), 51);
    }

    private static PlaceNet withReply() {
        PlaceNet x = new PlaceNet();
        x.site(0, 0);
        x.site(1, 1);
        x.prefix(1, 0x20000000, 8);
        x.register(1);
        x.send(0, 0x20000005);
        x.run(2);
        return x;
    }

    private static void isIgnored(String what, int ignored, int state, int... pairs) {
        PlaceNet x = withReply();
        for (int i = 0; i < pairs.length; i += 2) {
            x.forge(0, pairs[i], pairs[i + 1]);
        }
        x.run(1);
        check.same(what + ": ignored", x.count(2), ignored);
        check.same(what + ": state", x.packet(1, 0), state);
        check.same(what + ": notes", x.count(8), ignored == 1 || state == WAITS ? 0 : 1);
    }

    private static void promise8Replies() {
        check.about("REPLY");
        isIgnored("as sent", 0, UNDER_WAY);
        isIgnored("another nonce", 1, WAITS, 0, 1);
        isIgnored("sort 3", 1, WAITS, 1, 3);
        isIgnored("sort -1", 1, WAITS, 1, -1);
        isIgnored("without the endpoint", 1, WAITS, 2, 0x21000000);
        isIgnored("no prefix", 1, WAITS, 2, 0x20000005);
        isIgnored("length 33", 1, WAITS, 3, 33, 2, 0x20000005);
        isIgnored("length -1", 1, WAITS, 3, -1, 2, 0);
        isIgnored("length 32", 0, UNDER_WAY, 3, 32, 2, 0x20000005);
        isIgnored("length 0", 0, UNDER_WAY, 3, 0, 2, 0);
        isIgnored("place 15", 0, UNDER_WAY, 4, 15);
        isIgnored("place 16", 1, WAITS, 4, 16);
        isIgnored("place -1", 1, WAITS, 4, -1);
        isIgnored("a hole, any value", 0, UNREACHABLE, 1, 2, 4, 99);
        isIgnored("a referral to 7", 0, WAITS, 1, 0, 4, 7);
        isIgnored("a referral to 8", 1, WAITS, 1, 0, 4, 8);
        isIgnored("a referral to -1", 1, WAITS, 1, 0, 4, -1);
        isIgnored("any version", 0, UNDER_WAY, 5, -9);
        PlaceNet x = withReply();
        x.repeat(0);
        x.run(1);
        check.isMessage("data", x, 1, 0, 1, 0x20000005, 0, 0, 0, DATA, 1);
        x.run(1);
        check.same("it waits no more", x.count(2), 1);
        x.run(1);
        check.same("delivered", x.packet(1, 0), DELIVERED);
        x.send(0, 0x30000000);
        x.forge(0, 0, 1);
        x.run(2);
        check.same("no packet of that site", x.count(2), 2);
        check.same("and its packet waits", x.packet(2, 0), WAITS);
    }

    private static void promise8Data() {
        check.about("DATA");
        PlaceNet x = withReply();
        x.run(1);
        for (int i = 0; i < 6; i++) {
            x.repeat(0);
        }
        x.forge(0, 1, 2);
        x.forge(1, 1, 0);
        x.forge(2, 0, 2);
        x.forge(3, 0, -1);
        x.run(4);
        check.same("no such packet or site: nothing", x.packet(1, 0), UNDER_WAY);
        check.same("no solicit", x.count(3), 0);
        x.forge(0, 2, 0x21000000);
        x.run(1);
        check.same("another's endpoint", x.packet(1, 0), LOST);
        check.same("one solicit", x.count(3), 1);
        check.isMessage("it", x, 2, 0x21000000, 1, 0, 0, 0, 0, SOLICIT, 0);
        x.run(1);
        check.same("delivered, whatever it was", x.packet(1, 0), DELIVERED);
        x.forge(0, 2, 0x21000000);
        x.run(1);
        check.same("lost only if under way", x.packet(1, 0), DELIVERED);
        check.same("two solicits", x.count(3), 2);
        movedAway();
        moversFollow();
    }

    private static void movedAway() {
        PlaceNet x = withReply();
        x.run(1);
        x.repeat(0);
        x.repeat(0);
        x.pass(5);
        x.move(1, 9);
        x.pass(29);
        x.run(1);
        check.same("data goes on, then a solicit", x.count(0), 4);
        check.isMessage("data", x, 2, 0, 1, 0x20000005, 0, 0, 0, DATA, 9);
        check.isMessage("solicit", x, 3, 0x20000005, 1, 0, 0, 0, 0, SOLICIT, 0);
        check.same("under way", x.packet(1, 0), UNDER_WAY);
        x.pass(1);
        x.run(1);
        check.same("lost after 30", x.packet(1, 0), LOST);
        check.same("no solicit then", x.count(3), 1);
        x.run(2);
        check.same("the other copy came", x.packet(1, 0), DELIVERED);
        check.same("at", x.packet(1, 1), 1);
        PlaceNet y = withReply();
        y.forge(0, 4, 13);
        y.run(2);
        check.same("nobody was ever there", y.packet(1, 0), LOST);
        check.same("no solicit", y.count(3), 0);
    }

    private static void moversFollow() {
        PlaceNet x = withReply();
        x.run(1);
        x.move(1, 9);
        x.move(1, 10);
        x.repeat(0);
        x.run(1);
        check.same("to where it is now", x.message(1, 7), 10);
        x.drop(1);
        x.site(2, 1);
        x.repeat(0);
        x.run(1);
        check.same("somebody else there: lost", x.packet(1, 0), LOST);
        x.move(2, 3);
        x.carry(1);
        int newest = x.count(0) - 2;
        check.same("the last that moved away", x.message(newest, 7), 3);
        x.carry(newest);
        check.same("which has it not", x.packet(1, 3), 0);
        PlaceNet y = withReply();
        y.run(1);
        y.repeat(0);
        y.move(1, 9);
        y.move(1, 1);
        y.run(1);
        check.same("it came back", y.packet(1, 0), DELIVERED);
    }

    private static void promise8Solicits() {
        check.about("SOLICIT");
        PlaceNet x = withReply();
        x.run(1);
        x.forge(0, 2, 0x21000000);
        x.run(1);
        for (int i = 0; i < 4; i++) {
            x.repeat(0);
        }
        x.run(1);
        check.same("another endpoint", x.count(8), 1);
        x.forge(0, 0, 0x20000000);
        x.forge(0, 1, 2);
        x.run(1);
        check.same("another place", x.count(8), 1);
        x.forge(0, 0, 0x20FFFFFF);
        x.forge(0, 1, -1);
        x.run(1);
        check.same("a mapping is no hole", x.count(8), 1);
        x.forge(0, 0, 0x20FFFFFF);
        x.repeat(0);
        x.run(1);
        check.same("both", x.count(8), 0);
        check.same("a repeated one isn't sent", x.count(3), 1);
        x.send(0, 0x30000000);
        x.carry(2);
        x.carry(2);
        check.same("a hole", x.note(0, 0x30000000, 1), -1);
        check.same("noted", x.count(8), 1);
        x.forge(0, 0, 0x30000001);
        x.forge(0, 1, 0);
        x.run(1);
        check.same("place 0 is no hole", x.count(8), 1);
        x.forge(0, 0, 0x30000001);
        x.forge(0, 1, -1);
        x.run(1);
        check.same("place -1 is", x.count(8), 0);
    }

    private static void promise9() {
        check.about("promise 9");
        PlaceNet x = withRegister();
        check.out("-1", () -> x.repeat(-1));
        check.out("1 of 1", () -> x.repeat(1));
        x.send(0, 5);
        x.forge(0, 3, 7);
        x.repeat(0);
        check.same("three", x.count(0), 3);
        for (int what = 0; what < 8; what++) {
            check.same("the newest is like it", x.message(2, what), x.message(0, what));
        }
        x.forge(2, 3, 8);
        check.same("one of its own", x.message(0, 3), 7);
        for (int i = 3; i < 200; i++) {
            x.repeat(1);
        }
        check.same("full", x.count(0), 200);
        check.same("none lost", x.count(4), 0);
        check.fine("one more", () -> x.repeat(0));
        check.same("still full", x.count(0), 200);
        check.same("it was lost", x.count(4), 1);
        check.out("200", () -> x.repeat(200));
    }

    private static void promise10() {
        check.about("promise 10");
        PlaceNet x = withRegister();
        check.out("-1", () -> x.drop(-1));
        check.out("1 of 1", () -> x.drop(1));
        x.send(0, 5);
        x.send(0, 6);
        x.drop(1);
        check.same("two left", x.count(0), 2);
        check.same("the first", x.message(0, 6), REGISTER);
        check.same("the last", x.message(1, 2), 6);
        x.drop(0);
        x.drop(0);
        check.same("none", x.count(0), 0);
        check.same("none acted", x.count(7), 0);
        check.same("not for want of room", x.count(4), 0);
        check.same("its packet still waits", x.packet(1, 0), WAITS);
        check.out("empty", () -> x.drop(0));
    }

    private static void promise11() {
        check.about("promise 11");
        PlaceNet x = withRegister();
        x.send(0, 5);
        for (int i = 0; i < 6; i++) {
            x.forge(1, i, LOW + i);
        }
        check.isMessage("forged", x, 1, LOW, LOW + 1, LOW + 2, LOW + 3, LOW + 4, LOW + 5, REQUEST, 0);
        check.same("the other is as it was", x.message(0, 1), 0x20000000);
        check.out("field -1", () -> x.forge(0, -1, 0));
        check.out("field 6", () -> x.forge(0, 6, 0));
        check.out("extreme field", () -> x.forge(0, HIGH, 0));
        check.out("message -1", () -> x.forge(-1, 0, 0));
        check.out("message 2", () -> x.forge(2, 0, 0));
        check.fine("it acts as forged", () -> x.run(2));
        check.same("which is nothing", x.count(0), 0);
    }

    private static void promise12() {
        check.about("promise 12");
        PlaceNet x = withRegister();
        check.isMessage("register", x, 0, 0, 0x20000000, 8, 0, 1, Calls.tagOf(0, 0x20000000, 8, 0, 1), REGISTER, 0);
        check.out("what -1", () -> x.message(0, -1));
        check.out("what 8", () -> x.message(0, 8));
        check.out("extreme what", () -> x.message(0, LOW));
        check.out("message -1", () -> x.message(-1, 0));
        check.out("message 1", () -> x.message(1, 0));
        check.out("both", () -> x.message(HIGH, HIGH));
        check.same("nothing changed", x.count(0), 1);
    }

    private static void promise13() {
        check.about("promise 13");
        PlaceNet x = withReply();
        check.bad("-1", () -> x.run(-1));
        check.bad("1001", () -> x.run(1001));
        check.bad("extreme", () -> x.run(LOW));
        check.same("0", x.run(0), 0);
        check.same("nothing was carried", x.count(0), 1);
        check.same("what comes of it too", x.run(1000), 2);
        check.same("none left", x.run(1), 0);
        check.same("delivered", x.packet(1, 0), DELIVERED);
        x.send(0, 0x30000000);
        x.send(0, 0x40000000);
        check.same("no more than n", x.run(1), 1);
        check.same("the oldest", x.message(0, 2), 0x40000000);
        PlaceNet y = withRegister();
        for (int i = 1; i < 200; i++) {
            y.repeat(0);
        }
        check.same("two hundred", y.run(1000), 200);
    }

    private static void promise14() {
        check.about("promise 14");
        PlaceNet x = new PlaceNet();
        check.bad("0", () -> x.pass(0));
        check.bad("-1", () -> x.pass(-1));
        check.bad("1001", () -> x.pass(1001));
        check.bad("extreme", () -> x.pass(HIGH));
        check.same("no time went", x.count(6), 0);
        x.pass(1);
        x.pass(1000);
        check.same("1001", x.count(6), 1001);
        for (int i = 0; i < 998; i++) {
            x.pass(1000);
        }
        check.bad("above 1000000", () -> x.pass(1000));
        check.fine("just 1000000", () -> x.pass(999));
        check.bad("one above", () -> x.pass(1));
        check.same("the end", x.count(6), 1000000);
    }

    private static void promise15() {
        check.about("promise 15");
        PlaceNet x = withReply();
        check.bad("packet 0", () -> x.packet(0, 0));
        check.bad("packet 2", () -> x.packet(2, 0));
        check.bad("packet -1", () -> x.packet(-1, 4));
        check.bad("extreme", () -> x.packet(LOW, 0));
        check.same("what 4", x.packet(1, 4), -1);
        check.same("what -1", x.packet(1, -1), -1);
        check.same("waits", x.packet(1, 0), WAITS);
        check.same("nowhere yet", x.packet(1, 1), -1);
        check.same("never yet", x.packet(1, 3), 0);
        x.run(1);
        check.same("under way", x.packet(1, 0), UNDER_WAY);
        x.repeat(0);
        x.run(1);
        x.site(2, 2);
        x.prefix(2, 0x20000000, 16);
        x.move(1, 5);
        x.move(2, 1);
        x.run(1);
        check.same("delivered", x.packet(1, 0), DELIVERED);
        check.same("where it was first", x.packet(1, 1), 1);
        check.same("twice", x.packet(1, 3), 2);
        check.same("no referrals", x.packet(1, 2), 0);
    }

    private static void promise15Referrals() {
        check.about("REFERRALS");
        PlaceNet x = new PlaceNet();
        x.site(0, 0);
        x.delegate(0, 1, 0x40000000, 2);
        x.send(0, 0x40000000);
        int g = Calls.nextDraw(1);
        for (int i = 1; i <= 8; i++) {
            x.run(1);
            check.same("nonce", x.message(0, 0), g);
            x.forge(0, 4, 0);
            x.run(1);
            g = Calls.nextDraw(g);
            check.isMessage("request", x, 0, 0, g, 0x40000000, 0, 0, 0, REQUEST, 0);
            check.same("so many", x.packet(1, 2), i);
            check.same("it waits", x.packet(1, 0), WAITS);
        }
        x.run(2);
        check.same("the ninth", x.packet(1, 0), UNREACHABLE);
        check.same("nine", x.packet(1, 2), 9);
        check.same("no request", x.count(0), 0);
        x.send(0, 0);
        check.same("no nonce either", x.message(0, 1), Calls.nextDraw(g));
    }

    private static void promise16() {
        check.about("promise 16");
        PlaceNet x = withReply();
        x.run(1);
        check.bad("not there", () -> x.note(2, 0, 0));
        check.bad("site -1", () -> x.note(-1, 0, 3));
        check.bad("site 8", () -> x.note(8, 0, 0));
        check.same("length", x.note(0, 0x20FFFFFF, 0), 8);
        check.same("place", x.note(0, 0x20FFFFFF, 1), 1);
        check.same("version", x.note(0, 0x20FFFFFF, 2), 1);
        check.same("what 3", x.note(0, 0x20FFFFFF, 3), -1);
        check.same("what -1", x.note(0, 0x20FFFFFF, -1), -1);
        check.same("none with it", x.note(0, 0x21000000, 0), -1);
        check.same("none of another site", x.note(1, 0x20000000, 0), -1);
        x.pass(59);
        check.same("there at 59", x.note(0, 0x20000000, 0), 8);
        x.send(0, 0x20000001);
        check.same("and used", x.packet(2, 0), UNDER_WAY);
        x.pass(1);
        check.same("gone at 60", x.note(0, 0x20000000, 0), -1);
        x.drop(0);
        x.drop(0);
        x.send(0, -1);
        x.run(2);
        check.same("a hole's length", x.note(0, -1, 0), 1);
        check.same("a hole's place", x.note(0, -1, 1), -1);
        check.same("a hole's version", x.note(0, -1, 2), 0);
        sixNotes();
        notesMeet();
    }

    /** Site 0 notes a piece at place 1, by a reply that is forged so; k older messages stay. */
    private static void makeNote(PlaceNet x, int k, int endpoint, int length) {
        x.send(0, endpoint);
        x.carry(k);
        x.forge(k, 1, 1);
        x.forge(k, 2, endpoint);
        x.forge(k, 3, length);
        x.forge(k, 4, 1);
        x.carry(k);
        x.drop(k);
    }

    private static void sixNotes() {
        PlaceNet x = new PlaceNet();
        x.site(0, 0);
        for (int i = 0; i < 6; i++) {
            makeNote(x, 0, i << 28, 4);
        }
        check.same("six", x.count(8), 6);
        makeNote(x, 0, 0x60000000, 4);
        check.same("still six", x.count(8), 6);
        check.same("the first made went", x.note(0, 0, 0), -1);
        check.same("the second not", x.note(0, 0x10000000, 0), 4);
        makeNote(x, 0, 0xF0000000, 4);
        check.same("then the second", x.note(0, 0x10000000, 0), -1);
        PlaceNet y = new PlaceNet();
        y.site(0, 0);
        makeNote(y, 0, 0, 4);
        y.pass(30);
        for (int i = 1; i < 6; i++) {
            makeNote(y, 0, i << 28, 4);
        }
        y.pass(30);
        check.same("one has gone", y.count(8), 5);
        makeNote(y, 0, 0x70000000, 4);
        check.same("so there was room", y.note(0, 0x10000000, 0), 4);
        check.same("for six", y.count(8), 6);
    }

    private static void notesMeet() {
        PlaceNet x = new PlaceNet();
        x.site(0, 0);
        x.site(1, 1);
        x.send(0, 0);
        for (int i = 0; i < 6; i++) {
            makeNote(x, 1, i << 28, 4);
        }
        check.same("six", x.count(8), 6);
        x.carry(0);
        int reply = x.count(0) - 1;
        x.forge(reply, 3, 2);
        x.carry(reply);
        check.same("four lay in it, two stay with it", x.count(8), 3);
        check.same("it", x.note(0, 0x30000000, 0), 2);
        check.same("the fifth", x.note(0, 0x40000000, 0), 4);
        check.same("the sixth", x.note(0, 0x50000000, 0), 4);
        PlaceNet y = new PlaceNet();
        y.site(0, 0);
        y.send(0, 5);
        y.send(0, 6);
        y.run(2);
        y.forge(0, 3, 1);
        y.forge(1, 2, 6);
        y.forge(1, 3, 32);
        y.run(2);
        check.same("one in it takes the outer one away", y.note(0, 5, 0), -1);
        check.same("and is there", y.note(0, 6, 0), 32);
    }

    private static void promise17() {
        check.about("promise 17");
        PlaceNet x = new PlaceNet();
        x.site(0, 0);
        x.site(1, 1);
        x.prefix(0, 0x20000000, 8);
        x.prefix(1, 0x20000000, 16);
        x.prefix(0, 0x20000000, 24);
        x.register(0);
        x.register(1);
        check.same("nothing yet", x.truth(0x20000000), -1);
        x.run(3);
        check.same("the longest", x.truth(0x20000000), 0);
        check.same("the second", x.truth(0x20000100), 1);
        check.same("the first", x.truth(0x20010000), 0);
        check.same("none", x.truth(0x21000000), -1);
        check.same("none below", x.truth(0x1FFFFFFF), -1);
        x.pass(100);
        x.delegate(0, 1, 0x20000000, 12);
        x.register(1);
        Calls.forgeRegister(x, 0, 0, 0x20000000, 16, 3, 50);
        x.run(1);
        check.same("two entries of one prefix", x.count(7), 4);
        check.same("the lowest server's", x.truth(0x20000100), 1);
        x.pass(80);
        check.same("the other, when that lapsed", x.truth(0x20000100), 0);
        check.same("all others lapsed", x.truth(0x20010000), -1);
        x.pass(100);
        check.same("none at last", x.truth(0x20000100), -1);
        PlaceNet y = withRegister();
        y.run(1);
        y.move(0, 9);
        check.same("where a site is doesn't matter", y.truth(0x20000000), 0);
    }

    private static void promise18() {
        check.about("promise 18");
        PlaceNet x = withReply();
        check.same("what 9", x.count(9), -1);
        check.same("what -1", x.count(-1), -1);
        check.same("extreme", x.count(LOW), -1);
        check.same("messages", x.count(0), 1);
        check.same("packets", x.count(5), 1);
        check.same("entries", x.count(7), 1);
        x.run(1);
        check.same("notes", x.count(8), 1);
        x.send(1, 0x30000000);
        x.carry(1);
        x.carry(1);
        check.same("notes of all sites", x.count(8), 2);
        x.pass(60);
        check.same("gone", x.count(8), 0);
        x.pass(120);
        check.same("time", x.count(6), 180);
        check.same("lapsed", x.count(7), 0);
        wantOfRoom();
    }

    private static void wantOfRoom() {
        PlaceNet x = withReply();
        x.run(1);
        while (x.count(0) < 200) {
            x.repeat(0);
        }
        x.prefix(1, 0x50000000, 8);
        check.same("sent, though lost", x.register(1), 2);
        check.same("two lost", x.count(4), 2);
        x.send(0, 0x60000000);
        check.same("a third", x.count(4), 3);
        check.same("its packet waits", x.packet(2, 0), WAITS);
        x.send(0, 0x20000006);
        check.same("a fourth", x.count(4), 4);
        check.same("its packet is under way", x.packet(3, 0), UNDER_WAY);
        x.move(1, 9);
        x.carry(0);
        check.same("the carried one's room is used", x.count(0), 200);
        check.same("by the data", x.message(199, 6), DATA);
        check.same("which goes first, the solicit is lost", x.count(4), 5);
        check.same("and was sent", x.count(3), 1);
        x.drop(0);
        x.register(1);
        check.same("the nonces went on", x.message(199, 4), 4);
        check.same("one more lost", x.count(4), 6);
    }
}
